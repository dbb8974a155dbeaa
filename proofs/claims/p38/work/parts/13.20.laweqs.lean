set_option maxRecDepth 100000 in
theorem zF300_0 : ∀ pc, z_T 300 pc = z_fd (zt300_0 ++ (zt300_1 ++ (zt300_2 ++ (zt300_3 ++ (zt300_4 ++ (zt300_5 ++ (zt300_6 ++ (zt300_7 ++ (zt300_8 ++ (zt300_9 ++ (zt300_10 ++ (zt300_11 ++ (zt300_12 ++ (zt300_13 ++ (zt300_14 ++ (zt300_15 ++ (zt300_16 ++ (zt300_17 ++ (zt300_18 ++ (zt300_19 ++ (zt300_20 ++ (zt300_21 ++ (zt300_22 ++ (zt300_23 ++ (zt300_24 ++ zt300_25))))))))))))))))))))))))) pc := fun _ => rfl
set_option maxRecDepth 100000 in
theorem zF300_1 : ∀ pc, 222 ≤ pc → z_T 300 pc = z_fd (zt300_1 ++ (zt300_2 ++ (zt300_3 ++ (zt300_4 ++ (zt300_5 ++ (zt300_6 ++ (zt300_7 ++ (zt300_8 ++ (zt300_9 ++ (zt300_10 ++ (zt300_11 ++ (zt300_12 ++ (zt300_13 ++ (zt300_14 ++ (zt300_15 ++ (zt300_16 ++ (zt300_17 ++ (zt300_18 ++ (zt300_19 ++ (zt300_20 ++ (zt300_21 ++ (zt300_22 ++ (zt300_23 ++ (zt300_24 ++ zt300_25)))))))))))))))))))))))) pc := fun pc h => (zF300_0 pc).trans (z_fd_skip zt300_0 _ pc (fun q hq => Nat.lt_of_lt_of_le ((by decide +kernel : ∀ q ∈ zt300_0, q.1 < 222) q hq) h))
set_option maxRecDepth 100000 in
theorem zF300_2 : ∀ pc, 273 ≤ pc → z_T 300 pc = z_fd (zt300_2 ++ (zt300_3 ++ (zt300_4 ++ (zt300_5 ++ (zt300_6 ++ (zt300_7 ++ (zt300_8 ++ (zt300_9 ++ (zt300_10 ++ (zt300_11 ++ (zt300_12 ++ (zt300_13 ++ (zt300_14 ++ (zt300_15 ++ (zt300_16 ++ (zt300_17 ++ (zt300_18 ++ (zt300_19 ++ (zt300_20 ++ (zt300_21 ++ (zt300_22 ++ (zt300_23 ++ (zt300_24 ++ zt300_25))))))))))))))))))))))) pc := fun pc h => (zF300_1 pc (Nat.le_trans (by decide : 222 ≤ 273) h)).trans (z_fd_skip zt300_1 _ pc (fun q hq => Nat.lt_of_lt_of_le ((by decide +kernel : ∀ q ∈ zt300_1, q.1 < 273) q hq) h))
set_option maxRecDepth 100000 in
theorem zF300_3 : ∀ pc, 332 ≤ pc → z_T 300 pc = z_fd (zt300_3 ++ (zt300_4 ++ (zt300_5 ++ (zt300_6 ++ (zt300_7 ++ (zt300_8 ++ (zt300_9 ++ (zt300_10 ++ (zt300_11 ++ (zt300_12 ++ (zt300_13 ++ (zt300_14 ++ (zt300_15 ++ (zt300_16 ++ (zt300_17 ++ (zt300_18 ++ (zt300_19 ++ (zt300_20 ++ (zt300_21 ++ (zt300_22 ++ (zt300_23 ++ (zt300_24 ++ zt300_25)))))))))))))))))))))) pc := fun pc h => (zF300_2 pc (Nat.le_trans (by decide : 273 ≤ 332) h)).trans (z_fd_skip zt300_2 _ pc (fun q hq => Nat.lt_of_lt_of_le ((by decide +kernel : ∀ q ∈ zt300_2, q.1 < 332) q hq) h))
set_option maxRecDepth 100000 in
theorem zF300_4 : ∀ pc, 389 ≤ pc → z_T 300 pc = z_fd (zt300_4 ++ (zt300_5 ++ (zt300_6 ++ (zt300_7 ++ (zt300_8 ++ (zt300_9 ++ (zt300_10 ++ (zt300_11 ++ (zt300_12 ++ (zt300_13 ++ (zt300_14 ++ (zt300_15 ++ (zt300_16 ++ (zt300_17 ++ (zt300_18 ++ (zt300_19 ++ (zt300_20 ++ (zt300_21 ++ (zt300_22 ++ (zt300_23 ++ (zt300_24 ++ zt300_25))))))))))))))))))))) pc := fun pc h => (zF300_3 pc (Nat.le_trans (by decide : 332 ≤ 389) h)).trans (z_fd_skip zt300_3 _ pc (fun q hq => Nat.lt_of_lt_of_le ((by decide +kernel : ∀ q ∈ zt300_3, q.1 < 389) q hq) h))
set_option maxRecDepth 100000 in
theorem zF300_5 : ∀ pc, 445 ≤ pc → z_T 300 pc = z_fd (zt300_5 ++ (zt300_6 ++ (zt300_7 ++ (zt300_8 ++ (zt300_9 ++ (zt300_10 ++ (zt300_11 ++ (zt300_12 ++ (zt300_13 ++ (zt300_14 ++ (zt300_15 ++ (zt300_16 ++ (zt300_17 ++ (zt300_18 ++ (zt300_19 ++ (zt300_20 ++ (zt300_21 ++ (zt300_22 ++ (zt300_23 ++ (zt300_24 ++ zt300_25)))))))))))))))))))) pc := fun pc h => (zF300_4 pc (Nat.le_trans (by decide : 389 ≤ 445) h)).trans (z_fd_skip zt300_4 _ pc (fun q hq => Nat.lt_of_lt_of_le ((by decide +kernel : ∀ q ∈ zt300_4, q.1 < 445) q hq) h))
set_option maxRecDepth 100000 in
theorem zF300_6 : ∀ pc, 501 ≤ pc → z_T 300 pc = z_fd (zt300_6 ++ (zt300_7 ++ (zt300_8 ++ (zt300_9 ++ (zt300_10 ++ (zt300_11 ++ (zt300_12 ++ (zt300_13 ++ (zt300_14 ++ (zt300_15 ++ (zt300_16 ++ (zt300_17 ++ (zt300_18 ++ (zt300_19 ++ (zt300_20 ++ (zt300_21 ++ (zt300_22 ++ (zt300_23 ++ (zt300_24 ++ zt300_25))))))))))))))))))) pc := fun pc h => (zF300_5 pc (Nat.le_trans (by decide : 445 ≤ 501) h)).trans (z_fd_skip zt300_5 _ pc (fun q hq => Nat.lt_of_lt_of_le ((by decide +kernel : ∀ q ∈ zt300_5, q.1 < 501) q hq) h))
set_option maxRecDepth 100000 in
theorem zF300_7 : ∀ pc, 553 ≤ pc → z_T 300 pc = z_fd (zt300_7 ++ (zt300_8 ++ (zt300_9 ++ (zt300_10 ++ (zt300_11 ++ (zt300_12 ++ (zt300_13 ++ (zt300_14 ++ (zt300_15 ++ (zt300_16 ++ (zt300_17 ++ (zt300_18 ++ (zt300_19 ++ (zt300_20 ++ (zt300_21 ++ (zt300_22 ++ (zt300_23 ++ (zt300_24 ++ zt300_25)))))))))))))))))) pc := fun pc h => (zF300_6 pc (Nat.le_trans (by decide : 501 ≤ 553) h)).trans (z_fd_skip zt300_6 _ pc (fun q hq => Nat.lt_of_lt_of_le ((by decide +kernel : ∀ q ∈ zt300_6, q.1 < 553) q hq) h))
set_option maxRecDepth 100000 in
theorem zF300_8 : ∀ pc, 606 ≤ pc → z_T 300 pc = z_fd (zt300_8 ++ (zt300_9 ++ (zt300_10 ++ (zt300_11 ++ (zt300_12 ++ (zt300_13 ++ (zt300_14 ++ (zt300_15 ++ (zt300_16 ++ (zt300_17 ++ (zt300_18 ++ (zt300_19 ++ (zt300_20 ++ (zt300_21 ++ (zt300_22 ++ (zt300_23 ++ (zt300_24 ++ zt300_25))))))))))))))))) pc := fun pc h => (zF300_7 pc (Nat.le_trans (by decide : 553 ≤ 606) h)).trans (z_fd_skip zt300_7 _ pc (fun q hq => Nat.lt_of_lt_of_le ((by decide +kernel : ∀ q ∈ zt300_7, q.1 < 606) q hq) h))
set_option maxRecDepth 100000 in
theorem zF300_9 : ∀ pc, 655 ≤ pc → z_T 300 pc = z_fd (zt300_9 ++ (zt300_10 ++ (zt300_11 ++ (zt300_12 ++ (zt300_13 ++ (zt300_14 ++ (zt300_15 ++ (zt300_16 ++ (zt300_17 ++ (zt300_18 ++ (zt300_19 ++ (zt300_20 ++ (zt300_21 ++ (zt300_22 ++ (zt300_23 ++ (zt300_24 ++ zt300_25)))))))))))))))) pc := fun pc h => (zF300_8 pc (Nat.le_trans (by decide : 606 ≤ 655) h)).trans (z_fd_skip zt300_8 _ pc (fun q hq => Nat.lt_of_lt_of_le ((by decide +kernel : ∀ q ∈ zt300_8, q.1 < 655) q hq) h))
set_option maxRecDepth 100000 in
theorem zF300_10 : ∀ pc, 711 ≤ pc → z_T 300 pc = z_fd (zt300_10 ++ (zt300_11 ++ (zt300_12 ++ (zt300_13 ++ (zt300_14 ++ (zt300_15 ++ (zt300_16 ++ (zt300_17 ++ (zt300_18 ++ (zt300_19 ++ (zt300_20 ++ (zt300_21 ++ (zt300_22 ++ (zt300_23 ++ (zt300_24 ++ zt300_25))))))))))))))) pc := fun pc h => (zF300_9 pc (Nat.le_trans (by decide : 655 ≤ 711) h)).trans (z_fd_skip zt300_9 _ pc (fun q hq => Nat.lt_of_lt_of_le ((by decide +kernel : ∀ q ∈ zt300_9, q.1 < 711) q hq) h))
set_option maxRecDepth 100000 in
theorem zF300_11 : ∀ pc, 768 ≤ pc → z_T 300 pc = z_fd (zt300_11 ++ (zt300_12 ++ (zt300_13 ++ (zt300_14 ++ (zt300_15 ++ (zt300_16 ++ (zt300_17 ++ (zt300_18 ++ (zt300_19 ++ (zt300_20 ++ (zt300_21 ++ (zt300_22 ++ (zt300_23 ++ (zt300_24 ++ zt300_25)))))))))))))) pc := fun pc h => (zF300_10 pc (Nat.le_trans (by decide : 711 ≤ 768) h)).trans (z_fd_skip zt300_10 _ pc (fun q hq => Nat.lt_of_lt_of_le ((by decide +kernel : ∀ q ∈ zt300_10, q.1 < 768) q hq) h))
set_option maxRecDepth 100000 in
theorem zF300_12 : ∀ pc, 818 ≤ pc → z_T 300 pc = z_fd (zt300_12 ++ (zt300_13 ++ (zt300_14 ++ (zt300_15 ++ (zt300_16 ++ (zt300_17 ++ (zt300_18 ++ (zt300_19 ++ (zt300_20 ++ (zt300_21 ++ (zt300_22 ++ (zt300_23 ++ (zt300_24 ++ zt300_25))))))))))))) pc := fun pc h => (zF300_11 pc (Nat.le_trans (by decide : 768 ≤ 818) h)).trans (z_fd_skip zt300_11 _ pc (fun q hq => Nat.lt_of_lt_of_le ((by decide +kernel : ∀ q ∈ zt300_11, q.1 < 818) q hq) h))
set_option maxRecDepth 100000 in
theorem zF300_13 : ∀ pc, 875 ≤ pc → z_T 300 pc = z_fd (zt300_13 ++ (zt300_14 ++ (zt300_15 ++ (zt300_16 ++ (zt300_17 ++ (zt300_18 ++ (zt300_19 ++ (zt300_20 ++ (zt300_21 ++ (zt300_22 ++ (zt300_23 ++ (zt300_24 ++ zt300_25)))))))))))) pc := fun pc h => (zF300_12 pc (Nat.le_trans (by decide : 818 ≤ 875) h)).trans (z_fd_skip zt300_12 _ pc (fun q hq => Nat.lt_of_lt_of_le ((by decide +kernel : ∀ q ∈ zt300_12, q.1 < 875) q hq) h))
set_option maxRecDepth 100000 in
theorem zF300_14 : ∀ pc, 929 ≤ pc → z_T 300 pc = z_fd (zt300_14 ++ (zt300_15 ++ (zt300_16 ++ (zt300_17 ++ (zt300_18 ++ (zt300_19 ++ (zt300_20 ++ (zt300_21 ++ (zt300_22 ++ (zt300_23 ++ (zt300_24 ++ zt300_25))))))))))) pc := fun pc h => (zF300_13 pc (Nat.le_trans (by decide : 875 ≤ 929) h)).trans (z_fd_skip zt300_13 _ pc (fun q hq => Nat.lt_of_lt_of_le ((by decide +kernel : ∀ q ∈ zt300_13, q.1 < 929) q hq) h))
set_option maxRecDepth 100000 in
theorem zF300_15 : ∀ pc, 982 ≤ pc → z_T 300 pc = z_fd (zt300_15 ++ (zt300_16 ++ (zt300_17 ++ (zt300_18 ++ (zt300_19 ++ (zt300_20 ++ (zt300_21 ++ (zt300_22 ++ (zt300_23 ++ (zt300_24 ++ zt300_25)))))))))) pc := fun pc h => (zF300_14 pc (Nat.le_trans (by decide : 929 ≤ 982) h)).trans (z_fd_skip zt300_14 _ pc (fun q hq => Nat.lt_of_lt_of_le ((by decide +kernel : ∀ q ∈ zt300_14, q.1 < 982) q hq) h))
set_option maxRecDepth 100000 in
theorem zF300_16 : ∀ pc, 1044 ≤ pc → z_T 300 pc = z_fd (zt300_16 ++ (zt300_17 ++ (zt300_18 ++ (zt300_19 ++ (zt300_20 ++ (zt300_21 ++ (zt300_22 ++ (zt300_23 ++ (zt300_24 ++ zt300_25))))))))) pc := fun pc h => (zF300_15 pc (Nat.le_trans (by decide : 982 ≤ 1044) h)).trans (z_fd_skip zt300_15 _ pc (fun q hq => Nat.lt_of_lt_of_le ((by decide +kernel : ∀ q ∈ zt300_15, q.1 < 1044) q hq) h))
set_option maxRecDepth 100000 in
theorem zF300_17 : ∀ pc, 1102 ≤ pc → z_T 300 pc = z_fd (zt300_17 ++ (zt300_18 ++ (zt300_19 ++ (zt300_20 ++ (zt300_21 ++ (zt300_22 ++ (zt300_23 ++ (zt300_24 ++ zt300_25)))))))) pc := fun pc h => (zF300_16 pc (Nat.le_trans (by decide : 1044 ≤ 1102) h)).trans (z_fd_skip zt300_16 _ pc (fun q hq => Nat.lt_of_lt_of_le ((by decide +kernel : ∀ q ∈ zt300_16, q.1 < 1102) q hq) h))
set_option maxRecDepth 100000 in
theorem zF300_18 : ∀ pc, 1158 ≤ pc → z_T 300 pc = z_fd (zt300_18 ++ (zt300_19 ++ (zt300_20 ++ (zt300_21 ++ (zt300_22 ++ (zt300_23 ++ (zt300_24 ++ zt300_25))))))) pc := fun pc h => (zF300_17 pc (Nat.le_trans (by decide : 1102 ≤ 1158) h)).trans (z_fd_skip zt300_17 _ pc (fun q hq => Nat.lt_of_lt_of_le ((by decide +kernel : ∀ q ∈ zt300_17, q.1 < 1158) q hq) h))
set_option maxRecDepth 100000 in
theorem zF300_19 : ∀ pc, 1211 ≤ pc → z_T 300 pc = z_fd (zt300_19 ++ (zt300_20 ++ (zt300_21 ++ (zt300_22 ++ (zt300_23 ++ (zt300_24 ++ zt300_25)))))) pc := fun pc h => (zF300_18 pc (Nat.le_trans (by decide : 1158 ≤ 1211) h)).trans (z_fd_skip zt300_18 _ pc (fun q hq => Nat.lt_of_lt_of_le ((by decide +kernel : ∀ q ∈ zt300_18, q.1 < 1211) q hq) h))
set_option maxRecDepth 100000 in
theorem zF300_20 : ∀ pc, 1265 ≤ pc → z_T 300 pc = z_fd (zt300_20 ++ (zt300_21 ++ (zt300_22 ++ (zt300_23 ++ (zt300_24 ++ zt300_25))))) pc := fun pc h => (zF300_19 pc (Nat.le_trans (by decide : 1211 ≤ 1265) h)).trans (z_fd_skip zt300_19 _ pc (fun q hq => Nat.lt_of_lt_of_le ((by decide +kernel : ∀ q ∈ zt300_19, q.1 < 1265) q hq) h))
set_option maxRecDepth 100000 in
theorem zF300_21 : ∀ pc, 1315 ≤ pc → z_T 300 pc = z_fd (zt300_21 ++ (zt300_22 ++ (zt300_23 ++ (zt300_24 ++ zt300_25)))) pc := fun pc h => (zF300_20 pc (Nat.le_trans (by decide : 1265 ≤ 1315) h)).trans (z_fd_skip zt300_20 _ pc (fun q hq => Nat.lt_of_lt_of_le ((by decide +kernel : ∀ q ∈ zt300_20, q.1 < 1315) q hq) h))
set_option maxRecDepth 100000 in
theorem zF300_22 : ∀ pc, 1370 ≤ pc → z_T 300 pc = z_fd (zt300_22 ++ (zt300_23 ++ (zt300_24 ++ zt300_25))) pc := fun pc h => (zF300_21 pc (Nat.le_trans (by decide : 1315 ≤ 1370) h)).trans (z_fd_skip zt300_21 _ pc (fun q hq => Nat.lt_of_lt_of_le ((by decide +kernel : ∀ q ∈ zt300_21, q.1 < 1370) q hq) h))
set_option maxRecDepth 100000 in
theorem zF300_23 : ∀ pc, 1424 ≤ pc → z_T 300 pc = z_fd (zt300_23 ++ (zt300_24 ++ zt300_25)) pc := fun pc h => (zF300_22 pc (Nat.le_trans (by decide : 1370 ≤ 1424) h)).trans (z_fd_skip zt300_22 _ pc (fun q hq => Nat.lt_of_lt_of_le ((by decide +kernel : ∀ q ∈ zt300_22, q.1 < 1424) q hq) h))
set_option maxRecDepth 100000 in
theorem zF300_24 : ∀ pc, 1477 ≤ pc → z_T 300 pc = z_fd (zt300_24 ++ zt300_25) pc := fun pc h => (zF300_23 pc (Nat.le_trans (by decide : 1424 ≤ 1477) h)).trans (z_fd_skip zt300_23 _ pc (fun q hq => Nat.lt_of_lt_of_le ((by decide +kernel : ∀ q ∈ zt300_23, q.1 < 1477) q hq) h))
set_option maxRecDepth 100000 in
theorem zF300_25 : ∀ pc, 1539 ≤ pc → z_T 300 pc = z_fd zt300_25 pc := fun pc h => (zF300_24 pc (Nat.le_trans (by decide : 1477 ≤ 1539) h)).trans (z_fd_skip zt300_24 _ pc (fun q hq => Nat.lt_of_lt_of_le ((by decide +kernel : ∀ q ∈ zt300_24, q.1 < 1539) q hq) h))
set_option maxRecDepth 100000 in
theorem g300_0 {d : Nat} {u : Nat × Nat} {ls st : List z_V} {w : z_W} {Q : z_P} : z_G d u 300 0 ls st w Q ↔ (1 ≤ u.1 ∧ 19 ≤ u.2 ∧ z_G d (u.1 - 1, u.2 - 19) 300 3 ls (z_r (z_N w) :: st) (z_nw w 11 19) Q) := z_gun ((zF300_0 0).trans rfl)
set_option maxRecDepth 100000 in
theorem g300_3 {d : Nat} {u : Nat × Nat} {ls st : List z_V} {w : z_W} {Q : z_P} {x : Int} : z_G d u 300 3 ls (z_i x :: st) w Q ↔ z_G d u 300 4 ls (z_i x :: z_i x :: st) w Q := z_gun ((zF300_0 3).trans rfl)
set_option maxRecDepth 100000 in
theorem g300_3r {d : Nat} {u : Nat × Nat} {ls st : List z_V} {w : z_W} {Q : z_P} {k : Nat} : z_G d u 300 3 ls (z_r k :: st) w Q ↔ z_G d u 300 4 ls (z_r k :: z_r k :: st) w Q := z_gun ((zF300_0 3).trans rfl)
set_option maxRecDepth 100000 in
theorem g300_4 {d : Nat} {u : Nat × Nat} {ls st : List z_V} {w : z_W} {Q : z_P} {p : Nat} : z_G (d + 1) u 300 4 ls (z_r p :: st) w Q ↔ (z_k w p = 11 ∧ z_c8 st 8 = true ∧ 46 ≤ u.1 ∧ 18224 ≤ u.2 ∧ z_G d (46, 18224) 119 0 [z_r p] [] w (fun r w' => z_G (d + 1) (u.1 - 46, u.2 - 18224) 300 7 ls (r.toList ++ st) w' Q)) := z_gcbV (d := d) (m := 300) (pc := 4) (m' := 119) (k := 1) (nL := 1) (nx := 7) (b := (46, 18224)) (ci := 11) (p := p) (u := u) (ls := ls) (st := st) (w := w) (Q := Q) (vs := [z_r p]) ((zF300_0 4).trans rfl) rfl rfl
set_option maxRecDepth 100000 in
theorem g300_7 {d : Nat} {u : Nat × Nat} {ls st : List z_V} {w : z_W} {Q : z_P} {o : Option Nat} {a0 a1 : z_V} : z_G d u 300 7 (a0 :: a1 :: ls) (z_vr o :: st) w Q ↔ z_G d u 300 8 (z_kl a0 :: z_vr o :: ls) st w Q := z_gun ((zF300_0 7).trans rfl)
set_option maxRecDepth 100000 in
theorem g300_7r {d : Nat} {u : Nat × Nat} {ls st : List z_V} {w : z_W} {Q : z_P} {k : Nat} {a0 a1 : z_V} : z_G d u 300 7 (a0 :: a1 :: ls) (z_r k :: st) w Q ↔ z_G d u 300 8 (z_kl a0 :: z_r k :: ls) st w Q := z_gun ((zF300_0 7).trans rfl)
set_option maxRecDepth 100000 in
theorem g300_8 {d : Nat} {u : Nat × Nat} {ls st : List z_V} {w : z_W} {Q : z_P} : z_G d u 300 8 ls st w Q ↔ (1 ≤ u.1 ∧ 39 ≤ u.2 ∧ z_G d (u.1 - 1, u.2 - 39) 300 11 ls (z_r (z_N w) :: st) (z_nw w 12 39) Q) := z_gun ((zF300_0 8).trans rfl)
set_option maxRecDepth 100000 in
theorem g300_11 {d : Nat} {u : Nat × Nat} {ls st : List z_V} {w : z_W} {Q : z_P} {x : Int} : z_G d u 300 11 ls (z_i x :: st) w Q ↔ z_G d u 300 12 ls (z_i x :: z_i x :: st) w Q := z_gun ((zF300_0 11).trans rfl)
set_option maxRecDepth 100000 in
theorem g300_11r {d : Nat} {u : Nat × Nat} {ls st : List z_V} {w : z_W} {Q : z_P} {k : Nat} : z_G d u 300 11 ls (z_r k :: st) w Q ↔ z_G d u 300 12 ls (z_r k :: z_r k :: st) w Q := z_gun ((zF300_0 11).trans rfl)
set_option maxRecDepth 100000 in
theorem g300_12 {d : Nat} {u : Nat × Nat} {ls st : List z_V} {w : z_W} {Q : z_P} {p : Nat} : z_G (d + 1) u 300 12 ls (z_r p :: st) w Q ↔ (z_k w p = 12 ∧ z_c8 st 8 = true ∧ 26 ≤ u.1 ∧ 26278 ≤ u.2 ∧ z_G d (26, 26278) 173 0 [z_r p] [] w (fun r w' => z_G (d + 1) (u.1 - 26, u.2 - 26278) 300 15 ls (r.toList ++ st) w' Q)) := z_gcbV (d := d) (m := 300) (pc := 12) (m' := 173) (k := 1) (nL := 1) (nx := 15) (b := (26, 26278)) (ci := 12) (p := p) (u := u) (ls := ls) (st := st) (w := w) (Q := Q) (vs := [z_r p]) ((zF300_0 12).trans rfl) rfl rfl
set_option maxRecDepth 100000 in
theorem g300_15 {d : Nat} {u : Nat × Nat} {ls st : List z_V} {w : z_W} {Q : z_P} {o : Option Nat} {a0 a1 a2 : z_V} : z_G d u 300 15 (a0 :: a1 :: a2 :: ls) (z_vr o :: st) w Q ↔ z_G d u 300 16 (a0 :: z_kl a1 :: z_vr o :: ls) st w Q := z_gun ((zF300_0 15).trans rfl)
set_option maxRecDepth 100000 in
theorem g300_15r {d : Nat} {u : Nat × Nat} {ls st : List z_V} {w : z_W} {Q : z_P} {k : Nat} {a0 a1 a2 : z_V} : z_G d u 300 15 (a0 :: a1 :: a2 :: ls) (z_r k :: st) w Q ↔ z_G d u 300 16 (a0 :: z_kl a1 :: z_r k :: ls) st w Q := z_gun ((zF300_0 15).trans rfl)
set_option maxRecDepth 100000 in
theorem g300_16 {d : Nat} {u : Nat × Nat} {ls st : List z_V} {w : z_W} {Q : z_P} : z_G d u 300 16 ls st w Q ↔ z_G d u 300 17 ls (z_i (1) :: st) w Q := z_gun ((zF300_0 16).trans rfl)
set_option maxRecDepth 100000 in
theorem g300_17 {d : Nat} {u : Nat × Nat} {ls st : List z_V} {w : z_W} {Q : z_P} {n : Int} : z_G d u 300 17 ls (z_i n :: st) w Q ↔ (0 ≤ n ∧ n ≤ 65536 ∧ 1 ≤ u.1 ∧ n ≤ (u.2 : Int) ∧ z_G d (u.1 - 1, u.2 - n.toNat) 300 19 ls (z_r (z_N w) :: st) (z_nw w 101 n) Q) := z_gun ((zF300_0 17).trans rfl)
set_option maxRecDepth 100000 in
theorem g300_19 {d : Nat} {u : Nat × Nat} {ls st : List z_V} {w : z_W} {Q : z_P} {o : Option Nat} {a0 a1 a2 a3 : z_V} : z_G d u 300 19 (a0 :: a1 :: a2 :: a3 :: ls) (z_vr o :: st) w Q ↔ z_G d u 300 20 (a0 :: a1 :: z_kl a2 :: z_vr o :: ls) st w Q := z_gun ((zF300_0 19).trans rfl)
set_option maxRecDepth 100000 in
theorem g300_19r {d : Nat} {u : Nat × Nat} {ls st : List z_V} {w : z_W} {Q : z_P} {k : Nat} {a0 a1 a2 a3 : z_V} : z_G d u 300 19 (a0 :: a1 :: a2 :: a3 :: ls) (z_r k :: st) w Q ↔ z_G d u 300 20 (a0 :: a1 :: z_kl a2 :: z_r k :: ls) st w Q := z_gun ((zF300_0 19).trans rfl)
set_option maxRecDepth 100000 in
theorem g300_20 {d : Nat} {u : Nat × Nat} {ls st : List z_V} {w : z_W} {Q : z_P} : z_G d u 300 20 ls st w Q ↔ z_G d u 300 21 ls (z_i (0) :: st) w Q := z_gun ((zF300_0 20).trans rfl)
set_option maxRecDepth 100000 in
theorem g300_21 {d : Nat} {u : Nat × Nat} {ls st : List z_V} {w : z_W} {Q : z_P} {z : Int} {a0 a1 a2 a3 a4 : z_V} : z_G d u 300 21 (a0 :: a1 :: a2 :: a3 :: a4 :: ls) (z_i z :: st) w Q ↔ z_G d u 300 23 (a0 :: a1 :: a2 :: z_kl a3 :: z_i z :: ls) st w Q := z_gun ((zF300_0 21).trans rfl)
set_option maxRecDepth 100000 in
theorem g300_23 {d : Nat} {u : Nat × Nat} {ls st : List z_V} {w : z_W} {Q : z_P} {z : Int} {a0 a1 a2 a3 : z_V} : z_G d u 300 23 (a0 :: a1 :: a2 :: a3 :: z_i z :: ls) st w Q ↔ z_G d u 300 25 (a0 :: a1 :: a2 :: a3 :: z_i z :: ls) (z_i z :: st) w Q := z_gun ((zF300_0 23).trans rfl)
set_option maxRecDepth 100000 in
theorem g300_25 {d : Nat} {u : Nat × Nat} {ls st : List z_V} {w : z_W} {Q : z_P} {o : Option Nat} : z_G d u 300 25 (z_vr o :: ls) st w Q ↔ z_G d u 300 26 (z_vr o :: ls) (z_vr o :: st) w Q := z_gun ((zF300_0 25).trans rfl)
set_option maxRecDepth 100000 in
theorem g300_25r {d : Nat} {u : Nat × Nat} {ls st : List z_V} {w : z_W} {Q : z_P} {k : Nat} : z_G d u 300 25 (z_r k :: ls) st w Q ↔ z_G d u 300 26 (z_r k :: ls) (z_r k :: st) w Q := z_gun ((zF300_0 25).trans rfl)
set_option maxRecDepth 100000 in
theorem g300_26 {d : Nat} {u : Nat × Nat} {ls st : List z_V} {w : z_W} {Q : z_P} {p : Nat} : z_G d u 300 26 ls (z_r p :: st) w Q ↔ ((100 ≤ z_k w p ∧ z_k w p ≤ 103) ∧ (0 ≤ z_len w p → z_G d u 300 27 ls (z_i (z_len w p) :: st) w Q)) := z_gun ((zF300_0 26).trans rfl)
set_option maxRecDepth 100000 in
theorem g300_27 {d : Nat} {u : Nat × Nat} {ls st : List z_V} {w : z_W} {Q : z_P} : z_G d u 300 27 ls st w Q ↔ z_G d u 300 29 ls (z_i (7) :: st) w Q := z_gun ((zF300_0 27).trans rfl)
set_option maxRecDepth 100000 in
theorem g300_29 {d : Nat} {u : Nat × Nat} {ls st : List z_V} {w : z_W} {Q : z_P} {x y : Int} : z_G d u 300 29 ls (z_i y :: z_i x :: st) w Q ↔ z_G d u 300 30 ls (z_i (z_sub x y) :: st) w Q := z_gun ((zF300_0 29).trans rfl)
set_option maxRecDepth 100000 in
theorem g300_30 {d : Nat} {u : Nat × Nat} {ls st : List z_V} {w : z_W} {Q : z_P} {x y : Int} : z_G d u 300 30 ls (z_i y :: z_i x :: st) w Q ↔ ((y < x → z_G d u 300 1592 ls st w Q) ∧ (¬ (y < x) → z_G d u 300 33 ls st w Q)) := z_gun ((zF300_0 30).trans rfl)
set_option maxRecDepth 100000 in
theorem g300_33 {d : Nat} {u : Nat × Nat} {ls st : List z_V} {w : z_W} {Q : z_P} {o : Option Nat} : z_G d u 300 33 (z_vr o :: ls) st w Q ↔ z_G d u 300 34 (z_vr o :: ls) (z_vr o :: st) w Q := z_gun ((zF300_0 33).trans rfl)
set_option maxRecDepth 100000 in
theorem g300_33r {d : Nat} {u : Nat × Nat} {ls st : List z_V} {w : z_W} {Q : z_P} {k : Nat} : z_G d u 300 33 (z_r k :: ls) st w Q ↔ z_G d u 300 34 (z_r k :: ls) (z_r k :: st) w Q := z_gun ((zF300_0 33).trans rfl)
set_option maxRecDepth 100000 in
theorem g300_34 {d : Nat} {u : Nat × Nat} {ls st : List z_V} {w : z_W} {Q : z_P} {z : Int} {a0 a1 a2 a3 : z_V} : z_G d u 300 34 (a0 :: a1 :: a2 :: a3 :: z_i z :: ls) st w Q ↔ z_G d u 300 36 (a0 :: a1 :: a2 :: a3 :: z_i z :: ls) (z_i z :: st) w Q := z_gun ((zF300_0 34).trans rfl)
set_option maxRecDepth 100000 in
theorem g300_36 {d : Nat} {u : Nat × Nat} {ls st : List z_V} {w : z_W} {Q : z_P} {p : Nat} {i : Int} : z_G d u 300 36 ls (z_i i :: z_r p :: st) w Q ↔ ((z_k w p = 100 ∨ z_k w p = 103) ∧ 0 ≤ i ∧ i < z_len w p ∧ (z_rg (z_I w p i) → z_G d u 300 37 ls (z_i (z_I w p i) :: st) w Q)) := z_gun ((zF300_0 36).trans rfl)
set_option maxRecDepth 100000 in
theorem g300_37 {d : Nat} {u : Nat × Nat} {ls st : List z_V} {w : z_W} {Q : z_P} : z_G d u 300 37 ls st w Q ↔ z_G d u 300 39 ls (z_i (63) :: st) w Q := z_gun ((zF300_0 37).trans rfl)
set_option maxRecDepth 100000 in
theorem g300_39 {d : Nat} {u : Nat × Nat} {ls st : List z_V} {w : z_W} {Q : z_P} {x y : Int} : z_G d u 300 39 ls (z_i y :: z_i x :: st) w Q ↔ z_G d u 300 40 ls (z_i (z_and x y) :: st) w Q := z_gun ((zF300_0 39).trans rfl)
set_option maxRecDepth 100000 in
theorem g300_40 {d : Nat} {u : Nat × Nat} {ls st : List z_V} {w : z_W} {Q : z_P} {x : Int} : z_G d u 300 40 ls (z_i x :: st) w Q ↔ ((x = 0 → z_G d u 300 204 ls st w Q) ∧ (x = 1 → z_G d u 300 277 ls st w Q) ∧ (x = 2 → z_G d u 300 302 ls st w Q) ∧ (x = 3 → z_G d u 300 327 ls st w Q) ∧ (x = 4 → z_G d u 300 352 ls st w Q) ∧ (x = 5 → z_G d u 300 377 ls st w Q) ∧ (x = 6 → z_G d u 300 417 ls st w Q) ∧ (x = 7 → z_G d u 300 454 ls st w Q) ∧ (x = 8 → z_G d u 300 491 ls st w Q) ∧ (x = 9 → z_G d u 300 552 ls st w Q) ∧ (x = 10 → z_G d u 300 601 ls st w Q) ∧ (x = 11 → z_G d u 300 674 ls st w Q) ∧ (x = 12 → z_G d u 300 711 ls st w Q) ∧ (x = 13 → z_G d u 300 736 ls st w Q) ∧ (x = 14 → z_G d u 300 761 ls st w Q) ∧ (x = 15 → z_G d u 300 834 ls st w Q) ∧ (x = 16 → z_G d u 300 859 ls st w Q) ∧ (x = 17 → z_G d u 300 896 ls st w Q) ∧ (x = 18 → z_G d u 300 933 ls st w Q) ∧ (x = 19 → z_G d u 300 1002 ls st w Q) ∧ (x = 20 → z_G d u 300 1027 ls st w Q) ∧ (x = 21 → z_G d u 300 1040 ls st w Q) ∧ (x = 22 → z_G d u 300 1077 ls st w Q) ∧ (x = 23 → z_G d u 300 1090 ls st w Q) ∧ (x = 24 → z_G d u 300 1115 ls st w Q) ∧ (x = 25 → z_G d u 300 1152 ls st w Q) ∧ (x = 26 → z_G d u 300 1177 ls st w Q) ∧ (x = 27 → z_G d u 300 1264 ls st w Q) ∧ (x = 28 → z_G d u 300 1325 ls st w Q) ∧ (x = 29 → z_G d u 300 1362 ls st w Q) ∧ (x = 30 → z_G d u 300 1399 ls st w Q) ∧ (x = 31 → z_G d u 300 1448 ls st w Q) ∧ (x = 32 → z_G d u 300 1485 ls st w Q) ∧ (x = 33 → z_G d u 300 1510 ls st w Q) ∧ (x = 34 → z_G d u 300 1535 ls st w Q) ∧ (x = 35 → z_G d u 300 1548 ls st w Q) ∧ (x = 36 → z_G d u 300 1561 ls st w Q) ∧ (x < 0 ∨ 36 < x → z_G d u 300 1586 ls st w Q)) := (z_gun ((zF300_0 40).trans rfl) : _ ↔ z_ts (0) (36) [204, 277, 302, 327, 352, 377, 417, 454, 491, 552, 601, 674, 711, 736, 761, 834, 859, 896, 933, 1002, 1027, 1040, 1077, 1090, 1115, 1152, 1177, 1264, 1325, 1362, 1399, 1448, 1485, 1510, 1535, 1548, 1561] 1586 z_G d u 300 ls (z_i x :: st) w Q).trans (by simp only [z_ts, z_i, z_tsl, and_assoc, true_and]; rfl)
set_option maxRecDepth 100000 in
theorem g300_204 {d : Nat} {u : Nat × Nat} {ls st : List z_V} {w : z_W} {Q : z_P} {o : Option Nat} {a0 : z_V} : z_G d u 300 204 (a0 :: z_vr o :: ls) st w Q ↔ z_G d u 300 205 (a0 :: z_vr o :: ls) (z_vr o :: st) w Q := z_gun ((zF300_0 204).trans rfl)
set_option maxRecDepth 100000 in
theorem g300_204r {d : Nat} {u : Nat × Nat} {ls st : List z_V} {w : z_W} {Q : z_P} {k : Nat} {a0 : z_V} : z_G d u 300 204 (a0 :: z_r k :: ls) st w Q ↔ z_G d u 300 205 (a0 :: z_r k :: ls) (z_r k :: st) w Q := z_gun ((zF300_0 204).trans rfl)
set_option maxRecDepth 100000 in
theorem g300_205 {d : Nat} {u : Nat × Nat} {ls st : List z_V} {w : z_W} {Q : z_P} {o : Option Nat} : z_G d u 300 205 (z_vr o :: ls) st w Q ↔ z_G d u 300 206 (z_vr o :: ls) (z_vr o :: st) w Q := z_gun ((zF300_0 205).trans rfl)
set_option maxRecDepth 100000 in
theorem g300_205r {d : Nat} {u : Nat × Nat} {ls st : List z_V} {w : z_W} {Q : z_P} {k : Nat} : z_G d u 300 205 (z_r k :: ls) st w Q ↔ z_G d u 300 206 (z_r k :: ls) (z_r k :: st) w Q := z_gun ((zF300_0 205).trans rfl)
set_option maxRecDepth 100000 in
theorem g300_206 {d : Nat} {u : Nat × Nat} {ls st : List z_V} {w : z_W} {Q : z_P} {z : Int} {a0 a1 a2 a3 : z_V} : z_G d u 300 206 (a0 :: a1 :: a2 :: a3 :: z_i z :: ls) st w Q ↔ z_G d u 300 208 (a0 :: a1 :: a2 :: a3 :: z_i z :: ls) (z_i z :: st) w Q := z_gun ((zF300_0 206).trans rfl)
set_option maxRecDepth 100000 in
theorem g300_208 {d : Nat} {u : Nat × Nat} {ls st : List z_V} {w : z_W} {Q : z_P} : z_G d u 300 208 ls st w Q ↔ z_G d u 300 209 ls (z_i (1) :: st) w Q := z_gun ((zF300_0 208).trans rfl)
set_option maxRecDepth 100000 in
theorem g300_209 {d : Nat} {u : Nat × Nat} {ls st : List z_V} {w : z_W} {Q : z_P} {x y : Int} : z_G d u 300 209 ls (z_i y :: z_i x :: st) w Q ↔ z_G d u 300 210 ls (z_i (z_add x y) :: st) w Q := z_gun ((zF300_0 209).trans rfl)
set_option maxRecDepth 100000 in
theorem g300_210 {d : Nat} {u : Nat × Nat} {ls st : List z_V} {w : z_W} {Q : z_P} {p : Nat} {i : Int} : z_G d u 300 210 ls (z_i i :: z_r p :: st) w Q ↔ ((z_k w p = 100 ∨ z_k w p = 103) ∧ 0 ≤ i ∧ i < z_len w p ∧ (z_rg (z_I w p i) → z_G d u 300 211 ls (z_i (z_I w p i) :: st) w Q)) := z_gun ((zF300_0 210).trans rfl)
set_option maxRecDepth 100000 in
theorem g300_211 {d : Nat} {u : Nat × Nat} {ls st : List z_V} {w : z_W} {Q : z_P} {o : Option Nat} : z_G d u 300 211 (z_vr o :: ls) st w Q ↔ z_G d u 300 212 (z_vr o :: ls) (z_vr o :: st) w Q := z_gun ((zF300_0 211).trans rfl)
set_option maxRecDepth 100000 in
theorem g300_211r {d : Nat} {u : Nat × Nat} {ls st : List z_V} {w : z_W} {Q : z_P} {k : Nat} : z_G d u 300 211 (z_r k :: ls) st w Q ↔ z_G d u 300 212 (z_r k :: ls) (z_r k :: st) w Q := z_gun ((zF300_0 211).trans rfl)
set_option maxRecDepth 100000 in
theorem g300_212 {d : Nat} {u : Nat × Nat} {ls st : List z_V} {w : z_W} {Q : z_P} {z : Int} {a0 a1 a2 a3 : z_V} : z_G d u 300 212 (a0 :: a1 :: a2 :: a3 :: z_i z :: ls) st w Q ↔ z_G d u 300 214 (a0 :: a1 :: a2 :: a3 :: z_i z :: ls) (z_i z :: st) w Q := z_gun ((zF300_0 212).trans rfl)
set_option maxRecDepth 100000 in
theorem g300_214 {d : Nat} {u : Nat × Nat} {ls st : List z_V} {w : z_W} {Q : z_P} : z_G d u 300 214 ls st w Q ↔ z_G d u 300 215 ls (z_i (2) :: st) w Q := z_gun ((zF300_0 214).trans rfl)
set_option maxRecDepth 100000 in
theorem g300_215 {d : Nat} {u : Nat × Nat} {ls st : List z_V} {w : z_W} {Q : z_P} {x y : Int} : z_G d u 300 215 ls (z_i y :: z_i x :: st) w Q ↔ z_G d u 300 216 ls (z_i (z_add x y) :: st) w Q := z_gun ((zF300_0 215).trans rfl)
set_option maxRecDepth 100000 in
theorem g300_216 {d : Nat} {u : Nat × Nat} {ls st : List z_V} {w : z_W} {Q : z_P} {p : Nat} {i : Int} : z_G d u 300 216 ls (z_i i :: z_r p :: st) w Q ↔ ((z_k w p = 100 ∨ z_k w p = 103) ∧ 0 ≤ i ∧ i < z_len w p ∧ (z_rg (z_I w p i) → z_G d u 300 217 ls (z_i (z_I w p i) :: st) w Q)) := z_gun ((zF300_0 216).trans rfl)
set_option maxRecDepth 100000 in
theorem g300_217 {d : Nat} {u : Nat × Nat} {ls st : List z_V} {w : z_W} {Q : z_P} {o : Option Nat} : z_G d u 300 217 (z_vr o :: ls) st w Q ↔ z_G d u 300 218 (z_vr o :: ls) (z_vr o :: st) w Q := z_gun ((zF300_0 217).trans rfl)
set_option maxRecDepth 100000 in
theorem g300_217r {d : Nat} {u : Nat × Nat} {ls st : List z_V} {w : z_W} {Q : z_P} {k : Nat} : z_G d u 300 217 (z_r k :: ls) st w Q ↔ z_G d u 300 218 (z_r k :: ls) (z_r k :: st) w Q := z_gun ((zF300_0 217).trans rfl)
set_option maxRecDepth 100000 in
theorem g300_218 {d : Nat} {u : Nat × Nat} {ls st : List z_V} {w : z_W} {Q : z_P} {z : Int} {a0 a1 a2 a3 : z_V} : z_G d u 300 218 (a0 :: a1 :: a2 :: a3 :: z_i z :: ls) st w Q ↔ z_G d u 300 220 (a0 :: a1 :: a2 :: a3 :: z_i z :: ls) (z_i z :: st) w Q := z_gun ((zF300_0 218).trans rfl)
set_option maxRecDepth 100000 in
theorem g300_220 {d : Nat} {u : Nat × Nat} {ls st : List z_V} {w : z_W} {Q : z_P} : z_G d u 300 220 ls st w Q ↔ z_G d u 300 221 ls (z_i (3) :: st) w Q := z_gun ((zF300_0 220).trans rfl)
set_option maxRecDepth 100000 in
theorem g300_221 {d : Nat} {u : Nat × Nat} {ls st : List z_V} {w : z_W} {Q : z_P} {x y : Int} : z_G d u 300 221 ls (z_i y :: z_i x :: st) w Q ↔ z_G d u 300 222 ls (z_i (z_add x y) :: st) w Q := z_gun ((zF300_0 221).trans rfl)
set_option maxRecDepth 100000 in
theorem g300_222 {d : Nat} {u : Nat × Nat} {ls st : List z_V} {w : z_W} {Q : z_P} {p : Nat} {i : Int} : z_G d u 300 222 ls (z_i i :: z_r p :: st) w Q ↔ ((z_k w p = 100 ∨ z_k w p = 103) ∧ 0 ≤ i ∧ i < z_len w p ∧ (z_rg (z_I w p i) → z_G d u 300 223 ls (z_i (z_I w p i) :: st) w Q)) := z_gun ((zF300_1 222 (by decide)).trans rfl)
set_option maxRecDepth 100000 in
theorem g300_223 {d : Nat} {u : Nat × Nat} {ls st : List z_V} {w : z_W} {Q : z_P} {o : Option Nat} : z_G d u 300 223 (z_vr o :: ls) st w Q ↔ z_G d u 300 224 (z_vr o :: ls) (z_vr o :: st) w Q := z_gun ((zF300_1 223 (by decide)).trans rfl)
set_option maxRecDepth 100000 in
theorem g300_223r {d : Nat} {u : Nat × Nat} {ls st : List z_V} {w : z_W} {Q : z_P} {k : Nat} : z_G d u 300 223 (z_r k :: ls) st w Q ↔ z_G d u 300 224 (z_r k :: ls) (z_r k :: st) w Q := z_gun ((zF300_1 223 (by decide)).trans rfl)
set_option maxRecDepth 100000 in
theorem g300_224 {d : Nat} {u : Nat × Nat} {ls st : List z_V} {w : z_W} {Q : z_P} {z : Int} {a0 a1 a2 a3 : z_V} : z_G d u 300 224 (a0 :: a1 :: a2 :: a3 :: z_i z :: ls) st w Q ↔ z_G d u 300 226 (a0 :: a1 :: a2 :: a3 :: z_i z :: ls) (z_i z :: st) w Q := z_gun ((zF300_1 224 (by decide)).trans rfl)
set_option maxRecDepth 100000 in
theorem g300_226 {d : Nat} {u : Nat × Nat} {ls st : List z_V} {w : z_W} {Q : z_P} : z_G d u 300 226 ls st w Q ↔ z_G d u 300 227 ls (z_i (4) :: st) w Q := z_gun ((zF300_1 226 (by decide)).trans rfl)
set_option maxRecDepth 100000 in
theorem g300_227 {d : Nat} {u : Nat × Nat} {ls st : List z_V} {w : z_W} {Q : z_P} {x y : Int} : z_G d u 300 227 ls (z_i y :: z_i x :: st) w Q ↔ z_G d u 300 228 ls (z_i (z_add x y) :: st) w Q := z_gun ((zF300_1 227 (by decide)).trans rfl)
set_option maxRecDepth 100000 in
theorem g300_228 {d : Nat} {u : Nat × Nat} {ls st : List z_V} {w : z_W} {Q : z_P} {p : Nat} {i : Int} : z_G d u 300 228 ls (z_i i :: z_r p :: st) w Q ↔ ((z_k w p = 100 ∨ z_k w p = 103) ∧ 0 ≤ i ∧ i < z_len w p ∧ (z_rg (z_I w p i) → z_G d u 300 229 ls (z_i (z_I w p i) :: st) w Q)) := z_gun ((zF300_1 228 (by decide)).trans rfl)
set_option maxRecDepth 100000 in
theorem g300_229 {d : Nat} {u : Nat × Nat} {ls st : List z_V} {w : z_W} {Q : z_P} {o : Option Nat} : z_G d u 300 229 (z_vr o :: ls) st w Q ↔ z_G d u 300 230 (z_vr o :: ls) (z_vr o :: st) w Q := z_gun ((zF300_1 229 (by decide)).trans rfl)
set_option maxRecDepth 100000 in
theorem g300_229r {d : Nat} {u : Nat × Nat} {ls st : List z_V} {w : z_W} {Q : z_P} {k : Nat} : z_G d u 300 229 (z_r k :: ls) st w Q ↔ z_G d u 300 230 (z_r k :: ls) (z_r k :: st) w Q := z_gun ((zF300_1 229 (by decide)).trans rfl)
set_option maxRecDepth 100000 in
theorem g300_230 {d : Nat} {u : Nat × Nat} {ls st : List z_V} {w : z_W} {Q : z_P} {z : Int} {a0 a1 a2 a3 : z_V} : z_G d u 300 230 (a0 :: a1 :: a2 :: a3 :: z_i z :: ls) st w Q ↔ z_G d u 300 232 (a0 :: a1 :: a2 :: a3 :: z_i z :: ls) (z_i z :: st) w Q := z_gun ((zF300_1 230 (by decide)).trans rfl)
set_option maxRecDepth 100000 in
theorem g300_232 {d : Nat} {u : Nat × Nat} {ls st : List z_V} {w : z_W} {Q : z_P} : z_G d u 300 232 ls st w Q ↔ z_G d u 300 233 ls (z_i (5) :: st) w Q := z_gun ((zF300_1 232 (by decide)).trans rfl)
set_option maxRecDepth 100000 in
theorem g300_233 {d : Nat} {u : Nat × Nat} {ls st : List z_V} {w : z_W} {Q : z_P} {x y : Int} : z_G d u 300 233 ls (z_i y :: z_i x :: st) w Q ↔ z_G d u 300 234 ls (z_i (z_add x y) :: st) w Q := z_gun ((zF300_1 233 (by decide)).trans rfl)
set_option maxRecDepth 100000 in
theorem g300_234 {d : Nat} {u : Nat × Nat} {ls st : List z_V} {w : z_W} {Q : z_P} {p : Nat} {i : Int} : z_G d u 300 234 ls (z_i i :: z_r p :: st) w Q ↔ ((z_k w p = 100 ∨ z_k w p = 103) ∧ 0 ≤ i ∧ i < z_len w p ∧ (z_rg (z_I w p i) → z_G d u 300 235 ls (z_i (z_I w p i) :: st) w Q)) := z_gun ((zF300_1 234 (by decide)).trans rfl)
set_option maxRecDepth 100000 in
theorem g300_235 {d : Nat} {u : Nat × Nat} {ls st : List z_V} {w : z_W} {Q : z_P} {p : Nat} {x0 x1 x2 x3 x4 : Int} : z_G (d + 1) u 300 235 ls (z_i x4 :: z_i x3 :: z_i x2 :: z_i x1 :: z_i x0 :: z_r p :: st) w Q ↔ (z_k w p = 11 ∧ z_c8 st 8 = true ∧ z_G d (0, 0) 120 0 [z_r p, z_i x0, z_i x1, z_i x2, z_i x3, z_i x4, z_x] [] w (fun r w' => z_G (d + 1) u 300 238 ls (r.toList ++ st) w' Q)) := z_gcaV (d := d) (m := 300) (pc := 235) (m' := 120) (k := 6) (nL := 7) (nx := 238) (ci := 11) (p := p) (u := u) (ls := ls) (st := st) (w := w) (Q := Q) (vs := [z_r p, z_i x0, z_i x1, z_i x2, z_i x3, z_i x4]) ((zF300_1 235 (by decide)).trans rfl) rfl rfl
set_option maxRecDepth 100000 in
theorem g300_238 {d : Nat} {u : Nat × Nat} {ls st : List z_V} {w : z_W} {Q : z_P} {x : Int} : z_G d u 300 238 ls (z_i x :: st) w Q ↔ z_G d u 300 239 ls st w Q := z_gun ((zF300_1 238 (by decide)).trans rfl)
set_option maxRecDepth 100000 in
theorem g300_238r {d : Nat} {u : Nat × Nat} {ls st : List z_V} {w : z_W} {Q : z_P} {k : Nat} : z_G d u 300 238 ls (z_r k :: st) w Q ↔ z_G d u 300 239 ls st w Q := z_gun ((zF300_1 238 (by decide)).trans rfl)
set_option maxRecDepth 100000 in
theorem g300_239 {d : Nat} {u : Nat × Nat} {ls st : List z_V} {w : z_W} {Q : z_P} {o : Option Nat} {a0 a1 : z_V} : z_G d u 300 239 (a0 :: a1 :: z_vr o :: ls) st w Q ↔ z_G d u 300 240 (a0 :: a1 :: z_vr o :: ls) (z_vr o :: st) w Q := z_gun ((zF300_1 239 (by decide)).trans rfl)
set_option maxRecDepth 100000 in
theorem g300_239r {d : Nat} {u : Nat × Nat} {ls st : List z_V} {w : z_W} {Q : z_P} {k : Nat} {a0 a1 : z_V} : z_G d u 300 239 (a0 :: a1 :: z_r k :: ls) st w Q ↔ z_G d u 300 240 (a0 :: a1 :: z_r k :: ls) (z_r k :: st) w Q := z_gun ((zF300_1 239 (by decide)).trans rfl)
set_option maxRecDepth 100000 in
theorem g300_240 {d : Nat} {u : Nat × Nat} {ls st : List z_V} {w : z_W} {Q : z_P} {o : Option Nat} : z_G d u 300 240 (z_vr o :: ls) st w Q ↔ z_G d u 300 241 (z_vr o :: ls) (z_vr o :: st) w Q := z_gun ((zF300_1 240 (by decide)).trans rfl)
set_option maxRecDepth 100000 in
theorem g300_240r {d : Nat} {u : Nat × Nat} {ls st : List z_V} {w : z_W} {Q : z_P} {k : Nat} : z_G d u 300 240 (z_r k :: ls) st w Q ↔ z_G d u 300 241 (z_r k :: ls) (z_r k :: st) w Q := z_gun ((zF300_1 240 (by decide)).trans rfl)
set_option maxRecDepth 100000 in
theorem g300_241 {d : Nat} {u : Nat × Nat} {ls st : List z_V} {w : z_W} {Q : z_P} {z : Int} {a0 a1 a2 a3 : z_V} : z_G d u 300 241 (a0 :: a1 :: a2 :: a3 :: z_i z :: ls) st w Q ↔ z_G d u 300 243 (a0 :: a1 :: a2 :: a3 :: z_i z :: ls) (z_i z :: st) w Q := z_gun ((zF300_1 241 (by decide)).trans rfl)
set_option maxRecDepth 100000 in
theorem g300_243 {d : Nat} {u : Nat × Nat} {ls st : List z_V} {w : z_W} {Q : z_P} : z_G d u 300 243 ls st w Q ↔ z_G d u 300 244 ls (z_i (1) :: st) w Q := z_gun ((zF300_1 243 (by decide)).trans rfl)
set_option maxRecDepth 100000 in
theorem g300_244 {d : Nat} {u : Nat × Nat} {ls st : List z_V} {w : z_W} {Q : z_P} {x y : Int} : z_G d u 300 244 ls (z_i y :: z_i x :: st) w Q ↔ z_G d u 300 245 ls (z_i (z_add x y) :: st) w Q := z_gun ((zF300_1 244 (by decide)).trans rfl)
set_option maxRecDepth 100000 in
theorem g300_245 {d : Nat} {u : Nat × Nat} {ls st : List z_V} {w : z_W} {Q : z_P} {p : Nat} {i : Int} : z_G d u 300 245 ls (z_i i :: z_r p :: st) w Q ↔ ((z_k w p = 100 ∨ z_k w p = 103) ∧ 0 ≤ i ∧ i < z_len w p ∧ (z_rg (z_I w p i) → z_G d u 300 246 ls (z_i (z_I w p i) :: st) w Q)) := z_gun ((zF300_1 245 (by decide)).trans rfl)
set_option maxRecDepth 100000 in
theorem g300_246 {d : Nat} {u : Nat × Nat} {ls st : List z_V} {w : z_W} {Q : z_P} {o : Option Nat} : z_G d u 300 246 (z_vr o :: ls) st w Q ↔ z_G d u 300 247 (z_vr o :: ls) (z_vr o :: st) w Q := z_gun ((zF300_1 246 (by decide)).trans rfl)
set_option maxRecDepth 100000 in
theorem g300_246r {d : Nat} {u : Nat × Nat} {ls st : List z_V} {w : z_W} {Q : z_P} {k : Nat} : z_G d u 300 246 (z_r k :: ls) st w Q ↔ z_G d u 300 247 (z_r k :: ls) (z_r k :: st) w Q := z_gun ((zF300_1 246 (by decide)).trans rfl)
set_option maxRecDepth 100000 in
theorem g300_247 {d : Nat} {u : Nat × Nat} {ls st : List z_V} {w : z_W} {Q : z_P} {z : Int} {a0 a1 a2 a3 : z_V} : z_G d u 300 247 (a0 :: a1 :: a2 :: a3 :: z_i z :: ls) st w Q ↔ z_G d u 300 249 (a0 :: a1 :: a2 :: a3 :: z_i z :: ls) (z_i z :: st) w Q := z_gun ((zF300_1 247 (by decide)).trans rfl)
set_option maxRecDepth 100000 in
theorem g300_249 {d : Nat} {u : Nat × Nat} {ls st : List z_V} {w : z_W} {Q : z_P} : z_G d u 300 249 ls st w Q ↔ z_G d u 300 250 ls (z_i (2) :: st) w Q := z_gun ((zF300_1 249 (by decide)).trans rfl)
set_option maxRecDepth 100000 in
theorem g300_250 {d : Nat} {u : Nat × Nat} {ls st : List z_V} {w : z_W} {Q : z_P} {x y : Int} : z_G d u 300 250 ls (z_i y :: z_i x :: st) w Q ↔ z_G d u 300 251 ls (z_i (z_add x y) :: st) w Q := z_gun ((zF300_1 250 (by decide)).trans rfl)
set_option maxRecDepth 100000 in
theorem g300_251 {d : Nat} {u : Nat × Nat} {ls st : List z_V} {w : z_W} {Q : z_P} {p : Nat} {i : Int} : z_G d u 300 251 ls (z_i i :: z_r p :: st) w Q ↔ ((z_k w p = 100 ∨ z_k w p = 103) ∧ 0 ≤ i ∧ i < z_len w p ∧ (z_rg (z_I w p i) → z_G d u 300 252 ls (z_i (z_I w p i) :: st) w Q)) := z_gun ((zF300_1 251 (by decide)).trans rfl)
set_option maxRecDepth 100000 in
theorem g300_252 {d : Nat} {u : Nat × Nat} {ls st : List z_V} {w : z_W} {Q : z_P} {o : Option Nat} : z_G d u 300 252 (z_vr o :: ls) st w Q ↔ z_G d u 300 253 (z_vr o :: ls) (z_vr o :: st) w Q := z_gun ((zF300_1 252 (by decide)).trans rfl)
set_option maxRecDepth 100000 in
theorem g300_252r {d : Nat} {u : Nat × Nat} {ls st : List z_V} {w : z_W} {Q : z_P} {k : Nat} : z_G d u 300 252 (z_r k :: ls) st w Q ↔ z_G d u 300 253 (z_r k :: ls) (z_r k :: st) w Q := z_gun ((zF300_1 252 (by decide)).trans rfl)
set_option maxRecDepth 100000 in
theorem g300_253 {d : Nat} {u : Nat × Nat} {ls st : List z_V} {w : z_W} {Q : z_P} {z : Int} {a0 a1 a2 a3 : z_V} : z_G d u 300 253 (a0 :: a1 :: a2 :: a3 :: z_i z :: ls) st w Q ↔ z_G d u 300 255 (a0 :: a1 :: a2 :: a3 :: z_i z :: ls) (z_i z :: st) w Q := z_gun ((zF300_1 253 (by decide)).trans rfl)
set_option maxRecDepth 100000 in
theorem g300_255 {d : Nat} {u : Nat × Nat} {ls st : List z_V} {w : z_W} {Q : z_P} : z_G d u 300 255 ls st w Q ↔ z_G d u 300 256 ls (z_i (3) :: st) w Q := z_gun ((zF300_1 255 (by decide)).trans rfl)
set_option maxRecDepth 100000 in
theorem g300_256 {d : Nat} {u : Nat × Nat} {ls st : List z_V} {w : z_W} {Q : z_P} {x y : Int} : z_G d u 300 256 ls (z_i y :: z_i x :: st) w Q ↔ z_G d u 300 257 ls (z_i (z_add x y) :: st) w Q := z_gun ((zF300_1 256 (by decide)).trans rfl)
set_option maxRecDepth 100000 in
theorem g300_257 {d : Nat} {u : Nat × Nat} {ls st : List z_V} {w : z_W} {Q : z_P} {p : Nat} {i : Int} : z_G d u 300 257 ls (z_i i :: z_r p :: st) w Q ↔ ((z_k w p = 100 ∨ z_k w p = 103) ∧ 0 ≤ i ∧ i < z_len w p ∧ (z_rg (z_I w p i) → z_G d u 300 258 ls (z_i (z_I w p i) :: st) w Q)) := z_gun ((zF300_1 257 (by decide)).trans rfl)
set_option maxRecDepth 100000 in
theorem g300_258 {d : Nat} {u : Nat × Nat} {ls st : List z_V} {w : z_W} {Q : z_P} {o : Option Nat} : z_G d u 300 258 (z_vr o :: ls) st w Q ↔ z_G d u 300 259 (z_vr o :: ls) (z_vr o :: st) w Q := z_gun ((zF300_1 258 (by decide)).trans rfl)
set_option maxRecDepth 100000 in
theorem g300_258r {d : Nat} {u : Nat × Nat} {ls st : List z_V} {w : z_W} {Q : z_P} {k : Nat} : z_G d u 300 258 (z_r k :: ls) st w Q ↔ z_G d u 300 259 (z_r k :: ls) (z_r k :: st) w Q := z_gun ((zF300_1 258 (by decide)).trans rfl)
set_option maxRecDepth 100000 in
theorem g300_259 {d : Nat} {u : Nat × Nat} {ls st : List z_V} {w : z_W} {Q : z_P} {z : Int} {a0 a1 a2 a3 : z_V} : z_G d u 300 259 (a0 :: a1 :: a2 :: a3 :: z_i z :: ls) st w Q ↔ z_G d u 300 261 (a0 :: a1 :: a2 :: a3 :: z_i z :: ls) (z_i z :: st) w Q := z_gun ((zF300_1 259 (by decide)).trans rfl)
set_option maxRecDepth 100000 in
theorem g300_261 {d : Nat} {u : Nat × Nat} {ls st : List z_V} {w : z_W} {Q : z_P} : z_G d u 300 261 ls st w Q ↔ z_G d u 300 262 ls (z_i (4) :: st) w Q := z_gun ((zF300_1 261 (by decide)).trans rfl)
set_option maxRecDepth 100000 in
theorem g300_262 {d : Nat} {u : Nat × Nat} {ls st : List z_V} {w : z_W} {Q : z_P} {x y : Int} : z_G d u 300 262 ls (z_i y :: z_i x :: st) w Q ↔ z_G d u 300 263 ls (z_i (z_add x y) :: st) w Q := z_gun ((zF300_1 262 (by decide)).trans rfl)
set_option maxRecDepth 100000 in
theorem g300_263 {d : Nat} {u : Nat × Nat} {ls st : List z_V} {w : z_W} {Q : z_P} {p : Nat} {i : Int} : z_G d u 300 263 ls (z_i i :: z_r p :: st) w Q ↔ ((z_k w p = 100 ∨ z_k w p = 103) ∧ 0 ≤ i ∧ i < z_len w p ∧ (z_rg (z_I w p i) → z_G d u 300 264 ls (z_i (z_I w p i) :: st) w Q)) := z_gun ((zF300_1 263 (by decide)).trans rfl)
set_option maxRecDepth 100000 in
theorem g300_264 {d : Nat} {u : Nat × Nat} {ls st : List z_V} {w : z_W} {Q : z_P} {o : Option Nat} : z_G d u 300 264 (z_vr o :: ls) st w Q ↔ z_G d u 300 265 (z_vr o :: ls) (z_vr o :: st) w Q := z_gun ((zF300_1 264 (by decide)).trans rfl)
set_option maxRecDepth 100000 in
theorem g300_264r {d : Nat} {u : Nat × Nat} {ls st : List z_V} {w : z_W} {Q : z_P} {k : Nat} : z_G d u 300 264 (z_r k :: ls) st w Q ↔ z_G d u 300 265 (z_r k :: ls) (z_r k :: st) w Q := z_gun ((zF300_1 264 (by decide)).trans rfl)
set_option maxRecDepth 100000 in
theorem g300_265 {d : Nat} {u : Nat × Nat} {ls st : List z_V} {w : z_W} {Q : z_P} {z : Int} {a0 a1 a2 a3 : z_V} : z_G d u 300 265 (a0 :: a1 :: a2 :: a3 :: z_i z :: ls) st w Q ↔ z_G d u 300 267 (a0 :: a1 :: a2 :: a3 :: z_i z :: ls) (z_i z :: st) w Q := z_gun ((zF300_1 265 (by decide)).trans rfl)
set_option maxRecDepth 100000 in
theorem g300_267 {d : Nat} {u : Nat × Nat} {ls st : List z_V} {w : z_W} {Q : z_P} : z_G d u 300 267 ls st w Q ↔ z_G d u 300 268 ls (z_i (5) :: st) w Q := z_gun ((zF300_1 267 (by decide)).trans rfl)
set_option maxRecDepth 100000 in
theorem g300_268 {d : Nat} {u : Nat × Nat} {ls st : List z_V} {w : z_W} {Q : z_P} {x y : Int} : z_G d u 300 268 ls (z_i y :: z_i x :: st) w Q ↔ z_G d u 300 269 ls (z_i (z_add x y) :: st) w Q := z_gun ((zF300_1 268 (by decide)).trans rfl)
set_option maxRecDepth 100000 in
theorem g300_269 {d : Nat} {u : Nat × Nat} {ls st : List z_V} {w : z_W} {Q : z_P} {p : Nat} {i : Int} : z_G d u 300 269 ls (z_i i :: z_r p :: st) w Q ↔ ((z_k w p = 100 ∨ z_k w p = 103) ∧ 0 ≤ i ∧ i < z_len w p ∧ (z_rg (z_I w p i) → z_G d u 300 270 ls (z_i (z_I w p i) :: st) w Q)) := z_gun ((zF300_1 269 (by decide)).trans rfl)
set_option maxRecDepth 100000 in
theorem g300_270 {d : Nat} {u : Nat × Nat} {ls st : List z_V} {w : z_W} {Q : z_P} {p : Nat} {x0 x1 x2 x3 x4 : Int} : z_G (d + 1) u 300 270 ls (z_i x4 :: z_i x3 :: z_i x2 :: z_i x1 :: z_i x0 :: z_r p :: st) w Q ↔ (z_k w p = 12 ∧ z_c8 st 8 = true ∧ z_G d (0, 0) 175 0 [z_r p, z_i x0, z_i x1, z_i x2, z_i x3, z_i x4, z_x, z_x, z_x] [] w (fun r w' => z_G (d + 1) u 300 273 ls (r.toList ++ st) w' Q)) := z_gcaV (d := d) (m := 300) (pc := 270) (m' := 175) (k := 6) (nL := 9) (nx := 273) (ci := 12) (p := p) (u := u) (ls := ls) (st := st) (w := w) (Q := Q) (vs := [z_r p, z_i x0, z_i x1, z_i x2, z_i x3, z_i x4]) ((zF300_1 270 (by decide)).trans rfl) rfl rfl
set_option maxRecDepth 100000 in
theorem g300_273 {d : Nat} {u : Nat × Nat} {ls st : List z_V} {w : z_W} {Q : z_P} {x : Int} : z_G d u 300 273 ls (z_i x :: st) w Q ↔ z_G d u 300 274 ls st w Q := z_gun ((zF300_2 273 (by decide)).trans rfl)
set_option maxRecDepth 100000 in
theorem g300_273r {d : Nat} {u : Nat × Nat} {ls st : List z_V} {w : z_W} {Q : z_P} {k : Nat} : z_G d u 300 273 ls (z_r k :: st) w Q ↔ z_G d u 300 274 ls st w Q := z_gun ((zF300_2 273 (by decide)).trans rfl)
set_option maxRecDepth 100000 in
theorem g300_274 {d : Nat} {u : Nat × Nat} {ls st : List z_V} {w : z_W} {Q : z_P} : z_G d u 300 274 ls st w Q ↔ z_G d u 300 1586 ls st w Q := z_gun ((zF300_2 274 (by decide)).trans rfl)
set_option maxRecDepth 100000 in
theorem g300_277 {d : Nat} {u : Nat × Nat} {ls st : List z_V} {w : z_W} {Q : z_P} {o : Option Nat} {a0 : z_V} : z_G d u 300 277 (a0 :: z_vr o :: ls) st w Q ↔ z_G d u 300 278 (a0 :: z_vr o :: ls) (z_vr o :: st) w Q := z_gun ((zF300_2 277 (by decide)).trans rfl)
set_option maxRecDepth 100000 in
theorem g300_277r {d : Nat} {u : Nat × Nat} {ls st : List z_V} {w : z_W} {Q : z_P} {k : Nat} {a0 : z_V} : z_G d u 300 277 (a0 :: z_r k :: ls) st w Q ↔ z_G d u 300 278 (a0 :: z_r k :: ls) (z_r k :: st) w Q := z_gun ((zF300_2 277 (by decide)).trans rfl)
set_option maxRecDepth 100000 in
theorem g300_278 {d : Nat} {u : Nat × Nat} {ls st : List z_V} {w : z_W} {Q : z_P} {o : Option Nat} : z_G d u 300 278 (z_vr o :: ls) st w Q ↔ z_G d u 300 279 (z_vr o :: ls) (z_vr o :: st) w Q := z_gun ((zF300_2 278 (by decide)).trans rfl)
set_option maxRecDepth 100000 in
theorem g300_278r {d : Nat} {u : Nat × Nat} {ls st : List z_V} {w : z_W} {Q : z_P} {k : Nat} : z_G d u 300 278 (z_r k :: ls) st w Q ↔ z_G d u 300 279 (z_r k :: ls) (z_r k :: st) w Q := z_gun ((zF300_2 278 (by decide)).trans rfl)
set_option maxRecDepth 100000 in
theorem g300_279 {d : Nat} {u : Nat × Nat} {ls st : List z_V} {w : z_W} {Q : z_P} {z : Int} {a0 a1 a2 a3 : z_V} : z_G d u 300 279 (a0 :: a1 :: a2 :: a3 :: z_i z :: ls) st w Q ↔ z_G d u 300 281 (a0 :: a1 :: a2 :: a3 :: z_i z :: ls) (z_i z :: st) w Q := z_gun ((zF300_2 279 (by decide)).trans rfl)
set_option maxRecDepth 100000 in
theorem g300_281 {d : Nat} {u : Nat × Nat} {ls st : List z_V} {w : z_W} {Q : z_P} : z_G d u 300 281 ls st w Q ↔ z_G d u 300 282 ls (z_i (1) :: st) w Q := z_gun ((zF300_2 281 (by decide)).trans rfl)
set_option maxRecDepth 100000 in
theorem g300_282 {d : Nat} {u : Nat × Nat} {ls st : List z_V} {w : z_W} {Q : z_P} {x y : Int} : z_G d u 300 282 ls (z_i y :: z_i x :: st) w Q ↔ z_G d u 300 283 ls (z_i (z_add x y) :: st) w Q := z_gun ((zF300_2 282 (by decide)).trans rfl)
set_option maxRecDepth 100000 in
theorem g300_283 {d : Nat} {u : Nat × Nat} {ls st : List z_V} {w : z_W} {Q : z_P} {p : Nat} {i : Int} : z_G d u 300 283 ls (z_i i :: z_r p :: st) w Q ↔ ((z_k w p = 100 ∨ z_k w p = 103) ∧ 0 ≤ i ∧ i < z_len w p ∧ (z_rg (z_I w p i) → z_G d u 300 284 ls (z_i (z_I w p i) :: st) w Q)) := z_gun ((zF300_2 283 (by decide)).trans rfl)
set_option maxRecDepth 100000 in
theorem g300_284 {d : Nat} {u : Nat × Nat} {ls st : List z_V} {w : z_W} {Q : z_P} {p : Nat} {x0 : Int} : z_G (d + 1) u 300 284 ls (z_i x0 :: z_r p :: st) w Q ↔ (z_k w p = 11 ∧ z_c8 st 8 = true ∧ z_G d (0, 0) 121 0 [z_r p, z_i x0] [] w (fun r w' => z_G (d + 1) u 300 287 ls (r.toList ++ st) w' Q)) := z_gcaV (d := d) (m := 300) (pc := 284) (m' := 121) (k := 2) (nL := 2) (nx := 287) (ci := 11) (p := p) (u := u) (ls := ls) (st := st) (w := w) (Q := Q) (vs := [z_r p, z_i x0]) ((zF300_2 284 (by decide)).trans rfl) rfl rfl
set_option maxRecDepth 100000 in
theorem g300_287 {d : Nat} {u : Nat × Nat} {ls st : List z_V} {w : z_W} {Q : z_P} {x : Int} : z_G d u 300 287 ls (z_i x :: st) w Q ↔ z_G d u 300 288 ls st w Q := z_gun ((zF300_2 287 (by decide)).trans rfl)
set_option maxRecDepth 100000 in
theorem g300_287r {d : Nat} {u : Nat × Nat} {ls st : List z_V} {w : z_W} {Q : z_P} {k : Nat} : z_G d u 300 287 ls (z_r k :: st) w Q ↔ z_G d u 300 288 ls st w Q := z_gun ((zF300_2 287 (by decide)).trans rfl)
set_option maxRecDepth 100000 in
theorem g300_288 {d : Nat} {u : Nat × Nat} {ls st : List z_V} {w : z_W} {Q : z_P} {o : Option Nat} {a0 a1 : z_V} : z_G d u 300 288 (a0 :: a1 :: z_vr o :: ls) st w Q ↔ z_G d u 300 289 (a0 :: a1 :: z_vr o :: ls) (z_vr o :: st) w Q := z_gun ((zF300_2 288 (by decide)).trans rfl)
set_option maxRecDepth 100000 in
theorem g300_288r {d : Nat} {u : Nat × Nat} {ls st : List z_V} {w : z_W} {Q : z_P} {k : Nat} {a0 a1 : z_V} : z_G d u 300 288 (a0 :: a1 :: z_r k :: ls) st w Q ↔ z_G d u 300 289 (a0 :: a1 :: z_r k :: ls) (z_r k :: st) w Q := z_gun ((zF300_2 288 (by decide)).trans rfl)
set_option maxRecDepth 100000 in
theorem g300_289 {d : Nat} {u : Nat × Nat} {ls st : List z_V} {w : z_W} {Q : z_P} {o : Option Nat} : z_G d u 300 289 (z_vr o :: ls) st w Q ↔ z_G d u 300 290 (z_vr o :: ls) (z_vr o :: st) w Q := z_gun ((zF300_2 289 (by decide)).trans rfl)
set_option maxRecDepth 100000 in
theorem g300_289r {d : Nat} {u : Nat × Nat} {ls st : List z_V} {w : z_W} {Q : z_P} {k : Nat} : z_G d u 300 289 (z_r k :: ls) st w Q ↔ z_G d u 300 290 (z_r k :: ls) (z_r k :: st) w Q := z_gun ((zF300_2 289 (by decide)).trans rfl)
set_option maxRecDepth 100000 in
theorem g300_290 {d : Nat} {u : Nat × Nat} {ls st : List z_V} {w : z_W} {Q : z_P} {z : Int} {a0 a1 a2 a3 : z_V} : z_G d u 300 290 (a0 :: a1 :: a2 :: a3 :: z_i z :: ls) st w Q ↔ z_G d u 300 292 (a0 :: a1 :: a2 :: a3 :: z_i z :: ls) (z_i z :: st) w Q := z_gun ((zF300_2 290 (by decide)).trans rfl)
set_option maxRecDepth 100000 in
theorem g300_292 {d : Nat} {u : Nat × Nat} {ls st : List z_V} {w : z_W} {Q : z_P} : z_G d u 300 292 ls st w Q ↔ z_G d u 300 293 ls (z_i (1) :: st) w Q := z_gun ((zF300_2 292 (by decide)).trans rfl)
set_option maxRecDepth 100000 in
theorem g300_293 {d : Nat} {u : Nat × Nat} {ls st : List z_V} {w : z_W} {Q : z_P} {x y : Int} : z_G d u 300 293 ls (z_i y :: z_i x :: st) w Q ↔ z_G d u 300 294 ls (z_i (z_add x y) :: st) w Q := z_gun ((zF300_2 293 (by decide)).trans rfl)
set_option maxRecDepth 100000 in
theorem g300_294 {d : Nat} {u : Nat × Nat} {ls st : List z_V} {w : z_W} {Q : z_P} {p : Nat} {i : Int} : z_G d u 300 294 ls (z_i i :: z_r p :: st) w Q ↔ ((z_k w p = 100 ∨ z_k w p = 103) ∧ 0 ≤ i ∧ i < z_len w p ∧ (z_rg (z_I w p i) → z_G d u 300 295 ls (z_i (z_I w p i) :: st) w Q)) := z_gun ((zF300_2 294 (by decide)).trans rfl)
set_option maxRecDepth 100000 in
theorem g300_295 {d : Nat} {u : Nat × Nat} {ls st : List z_V} {w : z_W} {Q : z_P} {p : Nat} {x0 : Int} : z_G (d + 1) u 300 295 ls (z_i x0 :: z_r p :: st) w Q ↔ (z_k w p = 12 ∧ z_c8 st 8 = true ∧ z_G d (0, 0) 176 0 [z_r p, z_i x0] [] w (fun r w' => z_G (d + 1) u 300 298 ls (r.toList ++ st) w' Q)) := z_gcaV (d := d) (m := 300) (pc := 295) (m' := 176) (k := 2) (nL := 2) (nx := 298) (ci := 12) (p := p) (u := u) (ls := ls) (st := st) (w := w) (Q := Q) (vs := [z_r p, z_i x0]) ((zF300_2 295 (by decide)).trans rfl) rfl rfl
set_option maxRecDepth 100000 in
theorem g300_298 {d : Nat} {u : Nat × Nat} {ls st : List z_V} {w : z_W} {Q : z_P} {x : Int} : z_G d u 300 298 ls (z_i x :: st) w Q ↔ z_G d u 300 299 ls st w Q := z_gun ((zF300_2 298 (by decide)).trans rfl)
set_option maxRecDepth 100000 in
theorem g300_298r {d : Nat} {u : Nat × Nat} {ls st : List z_V} {w : z_W} {Q : z_P} {k : Nat} : z_G d u 300 298 ls (z_r k :: st) w Q ↔ z_G d u 300 299 ls st w Q := z_gun ((zF300_2 298 (by decide)).trans rfl)
set_option maxRecDepth 100000 in
theorem g300_299 {d : Nat} {u : Nat × Nat} {ls st : List z_V} {w : z_W} {Q : z_P} : z_G d u 300 299 ls st w Q ↔ z_G d u 300 1586 ls st w Q := z_gun ((zF300_2 299 (by decide)).trans rfl)
set_option maxRecDepth 100000 in
theorem g300_302 {d : Nat} {u : Nat × Nat} {ls st : List z_V} {w : z_W} {Q : z_P} {o : Option Nat} {a0 : z_V} : z_G d u 300 302 (a0 :: z_vr o :: ls) st w Q ↔ z_G d u 300 303 (a0 :: z_vr o :: ls) (z_vr o :: st) w Q := z_gun ((zF300_2 302 (by decide)).trans rfl)
set_option maxRecDepth 100000 in
theorem g300_302r {d : Nat} {u : Nat × Nat} {ls st : List z_V} {w : z_W} {Q : z_P} {k : Nat} {a0 : z_V} : z_G d u 300 302 (a0 :: z_r k :: ls) st w Q ↔ z_G d u 300 303 (a0 :: z_r k :: ls) (z_r k :: st) w Q := z_gun ((zF300_2 302 (by decide)).trans rfl)
set_option maxRecDepth 100000 in
theorem g300_303 {d : Nat} {u : Nat × Nat} {ls st : List z_V} {w : z_W} {Q : z_P} {o : Option Nat} : z_G d u 300 303 (z_vr o :: ls) st w Q ↔ z_G d u 300 304 (z_vr o :: ls) (z_vr o :: st) w Q := z_gun ((zF300_2 303 (by decide)).trans rfl)
set_option maxRecDepth 100000 in
theorem g300_303r {d : Nat} {u : Nat × Nat} {ls st : List z_V} {w : z_W} {Q : z_P} {k : Nat} : z_G d u 300 303 (z_r k :: ls) st w Q ↔ z_G d u 300 304 (z_r k :: ls) (z_r k :: st) w Q := z_gun ((zF300_2 303 (by decide)).trans rfl)
set_option maxRecDepth 100000 in
theorem g300_304 {d : Nat} {u : Nat × Nat} {ls st : List z_V} {w : z_W} {Q : z_P} {z : Int} {a0 a1 a2 a3 : z_V} : z_G d u 300 304 (a0 :: a1 :: a2 :: a3 :: z_i z :: ls) st w Q ↔ z_G d u 300 306 (a0 :: a1 :: a2 :: a3 :: z_i z :: ls) (z_i z :: st) w Q := z_gun ((zF300_2 304 (by decide)).trans rfl)
set_option maxRecDepth 100000 in
theorem g300_306 {d : Nat} {u : Nat × Nat} {ls st : List z_V} {w : z_W} {Q : z_P} : z_G d u 300 306 ls st w Q ↔ z_G d u 300 307 ls (z_i (1) :: st) w Q := z_gun ((zF300_2 306 (by decide)).trans rfl)
set_option maxRecDepth 100000 in
theorem g300_307 {d : Nat} {u : Nat × Nat} {ls st : List z_V} {w : z_W} {Q : z_P} {x y : Int} : z_G d u 300 307 ls (z_i y :: z_i x :: st) w Q ↔ z_G d u 300 308 ls (z_i (z_add x y) :: st) w Q := z_gun ((zF300_2 307 (by decide)).trans rfl)
set_option maxRecDepth 100000 in
theorem g300_308 {d : Nat} {u : Nat × Nat} {ls st : List z_V} {w : z_W} {Q : z_P} {p : Nat} {i : Int} : z_G d u 300 308 ls (z_i i :: z_r p :: st) w Q ↔ ((z_k w p = 100 ∨ z_k w p = 103) ∧ 0 ≤ i ∧ i < z_len w p ∧ (z_rg (z_I w p i) → z_G d u 300 309 ls (z_i (z_I w p i) :: st) w Q)) := z_gun ((zF300_2 308 (by decide)).trans rfl)
set_option maxRecDepth 100000 in
theorem g300_309 {d : Nat} {u : Nat × Nat} {ls st : List z_V} {w : z_W} {Q : z_P} {p : Nat} {x0 : Int} : z_G (d + 1) u 300 309 ls (z_i x0 :: z_r p :: st) w Q ↔ (z_k w p = 11 ∧ z_c8 st 8 = true ∧ z_G d (0, 0) 122 0 [z_r p, z_i x0] [] w (fun r w' => z_G (d + 1) u 300 312 ls (r.toList ++ st) w' Q)) := z_gcaV (d := d) (m := 300) (pc := 309) (m' := 122) (k := 2) (nL := 2) (nx := 312) (ci := 11) (p := p) (u := u) (ls := ls) (st := st) (w := w) (Q := Q) (vs := [z_r p, z_i x0]) ((zF300_2 309 (by decide)).trans rfl) rfl rfl
set_option maxRecDepth 100000 in
theorem g300_312 {d : Nat} {u : Nat × Nat} {ls st : List z_V} {w : z_W} {Q : z_P} {x : Int} : z_G d u 300 312 ls (z_i x :: st) w Q ↔ z_G d u 300 313 ls st w Q := z_gun ((zF300_2 312 (by decide)).trans rfl)
set_option maxRecDepth 100000 in
theorem g300_312r {d : Nat} {u : Nat × Nat} {ls st : List z_V} {w : z_W} {Q : z_P} {k : Nat} : z_G d u 300 312 ls (z_r k :: st) w Q ↔ z_G d u 300 313 ls st w Q := z_gun ((zF300_2 312 (by decide)).trans rfl)
set_option maxRecDepth 100000 in
theorem g300_313 {d : Nat} {u : Nat × Nat} {ls st : List z_V} {w : z_W} {Q : z_P} {o : Option Nat} {a0 a1 : z_V} : z_G d u 300 313 (a0 :: a1 :: z_vr o :: ls) st w Q ↔ z_G d u 300 314 (a0 :: a1 :: z_vr o :: ls) (z_vr o :: st) w Q := z_gun ((zF300_2 313 (by decide)).trans rfl)
set_option maxRecDepth 100000 in
theorem g300_313r {d : Nat} {u : Nat × Nat} {ls st : List z_V} {w : z_W} {Q : z_P} {k : Nat} {a0 a1 : z_V} : z_G d u 300 313 (a0 :: a1 :: z_r k :: ls) st w Q ↔ z_G d u 300 314 (a0 :: a1 :: z_r k :: ls) (z_r k :: st) w Q := z_gun ((zF300_2 313 (by decide)).trans rfl)
set_option maxRecDepth 100000 in
theorem g300_314 {d : Nat} {u : Nat × Nat} {ls st : List z_V} {w : z_W} {Q : z_P} {o : Option Nat} : z_G d u 300 314 (z_vr o :: ls) st w Q ↔ z_G d u 300 315 (z_vr o :: ls) (z_vr o :: st) w Q := z_gun ((zF300_2 314 (by decide)).trans rfl)
set_option maxRecDepth 100000 in
theorem g300_314r {d : Nat} {u : Nat × Nat} {ls st : List z_V} {w : z_W} {Q : z_P} {k : Nat} : z_G d u 300 314 (z_r k :: ls) st w Q ↔ z_G d u 300 315 (z_r k :: ls) (z_r k :: st) w Q := z_gun ((zF300_2 314 (by decide)).trans rfl)
set_option maxRecDepth 100000 in
theorem g300_315 {d : Nat} {u : Nat × Nat} {ls st : List z_V} {w : z_W} {Q : z_P} {z : Int} {a0 a1 a2 a3 : z_V} : z_G d u 300 315 (a0 :: a1 :: a2 :: a3 :: z_i z :: ls) st w Q ↔ z_G d u 300 317 (a0 :: a1 :: a2 :: a3 :: z_i z :: ls) (z_i z :: st) w Q := z_gun ((zF300_2 315 (by decide)).trans rfl)
set_option maxRecDepth 100000 in
theorem g300_317 {d : Nat} {u : Nat × Nat} {ls st : List z_V} {w : z_W} {Q : z_P} : z_G d u 300 317 ls st w Q ↔ z_G d u 300 318 ls (z_i (1) :: st) w Q := z_gun ((zF300_2 317 (by decide)).trans rfl)
set_option maxRecDepth 100000 in
theorem g300_318 {d : Nat} {u : Nat × Nat} {ls st : List z_V} {w : z_W} {Q : z_P} {x y : Int} : z_G d u 300 318 ls (z_i y :: z_i x :: st) w Q ↔ z_G d u 300 319 ls (z_i (z_add x y) :: st) w Q := z_gun ((zF300_2 318 (by decide)).trans rfl)
set_option maxRecDepth 100000 in
theorem g300_319 {d : Nat} {u : Nat × Nat} {ls st : List z_V} {w : z_W} {Q : z_P} {p : Nat} {i : Int} : z_G d u 300 319 ls (z_i i :: z_r p :: st) w Q ↔ ((z_k w p = 100 ∨ z_k w p = 103) ∧ 0 ≤ i ∧ i < z_len w p ∧ (z_rg (z_I w p i) → z_G d u 300 320 ls (z_i (z_I w p i) :: st) w Q)) := z_gun ((zF300_2 319 (by decide)).trans rfl)
set_option maxRecDepth 100000 in
theorem g300_320 {d : Nat} {u : Nat × Nat} {ls st : List z_V} {w : z_W} {Q : z_P} {p : Nat} {x0 : Int} : z_G (d + 1) u 300 320 ls (z_i x0 :: z_r p :: st) w Q ↔ (z_k w p = 12 ∧ z_c8 st 8 = true ∧ z_G d (0, 0) 192 0 [z_r p, z_i x0] [] w (fun r w' => z_G (d + 1) u 300 323 ls (r.toList ++ st) w' Q)) := z_gcaV (d := d) (m := 300) (pc := 320) (m' := 192) (k := 2) (nL := 2) (nx := 323) (ci := 12) (p := p) (u := u) (ls := ls) (st := st) (w := w) (Q := Q) (vs := [z_r p, z_i x0]) ((zF300_2 320 (by decide)).trans rfl) rfl rfl
set_option maxRecDepth 100000 in
theorem g300_323 {d : Nat} {u : Nat × Nat} {ls st : List z_V} {w : z_W} {Q : z_P} {x : Int} : z_G d u 300 323 ls (z_i x :: st) w Q ↔ z_G d u 300 324 ls st w Q := z_gun ((zF300_2 323 (by decide)).trans rfl)
set_option maxRecDepth 100000 in
theorem g300_323r {d : Nat} {u : Nat × Nat} {ls st : List z_V} {w : z_W} {Q : z_P} {k : Nat} : z_G d u 300 323 ls (z_r k :: st) w Q ↔ z_G d u 300 324 ls st w Q := z_gun ((zF300_2 323 (by decide)).trans rfl)
set_option maxRecDepth 100000 in
theorem g300_324 {d : Nat} {u : Nat × Nat} {ls st : List z_V} {w : z_W} {Q : z_P} : z_G d u 300 324 ls st w Q ↔ z_G d u 300 1586 ls st w Q := z_gun ((zF300_2 324 (by decide)).trans rfl)
set_option maxRecDepth 100000 in
theorem g300_327 {d : Nat} {u : Nat × Nat} {ls st : List z_V} {w : z_W} {Q : z_P} {o : Option Nat} {a0 : z_V} : z_G d u 300 327 (a0 :: z_vr o :: ls) st w Q ↔ z_G d u 300 328 (a0 :: z_vr o :: ls) (z_vr o :: st) w Q := z_gun ((zF300_2 327 (by decide)).trans rfl)
set_option maxRecDepth 100000 in
theorem g300_327r {d : Nat} {u : Nat × Nat} {ls st : List z_V} {w : z_W} {Q : z_P} {k : Nat} {a0 : z_V} : z_G d u 300 327 (a0 :: z_r k :: ls) st w Q ↔ z_G d u 300 328 (a0 :: z_r k :: ls) (z_r k :: st) w Q := z_gun ((zF300_2 327 (by decide)).trans rfl)
set_option maxRecDepth 100000 in
theorem g300_328 {d : Nat} {u : Nat × Nat} {ls st : List z_V} {w : z_W} {Q : z_P} {o : Option Nat} : z_G d u 300 328 (z_vr o :: ls) st w Q ↔ z_G d u 300 329 (z_vr o :: ls) (z_vr o :: st) w Q := z_gun ((zF300_2 328 (by decide)).trans rfl)
set_option maxRecDepth 100000 in
theorem g300_328r {d : Nat} {u : Nat × Nat} {ls st : List z_V} {w : z_W} {Q : z_P} {k : Nat} : z_G d u 300 328 (z_r k :: ls) st w Q ↔ z_G d u 300 329 (z_r k :: ls) (z_r k :: st) w Q := z_gun ((zF300_2 328 (by decide)).trans rfl)
set_option maxRecDepth 100000 in
theorem g300_329 {d : Nat} {u : Nat × Nat} {ls st : List z_V} {w : z_W} {Q : z_P} {z : Int} {a0 a1 a2 a3 : z_V} : z_G d u 300 329 (a0 :: a1 :: a2 :: a3 :: z_i z :: ls) st w Q ↔ z_G d u 300 331 (a0 :: a1 :: a2 :: a3 :: z_i z :: ls) (z_i z :: st) w Q := z_gun ((zF300_2 329 (by decide)).trans rfl)
set_option maxRecDepth 100000 in
theorem g300_331 {d : Nat} {u : Nat × Nat} {ls st : List z_V} {w : z_W} {Q : z_P} : z_G d u 300 331 ls st w Q ↔ z_G d u 300 332 ls (z_i (1) :: st) w Q := z_gun ((zF300_2 331 (by decide)).trans rfl)
set_option maxRecDepth 100000 in
theorem g300_332 {d : Nat} {u : Nat × Nat} {ls st : List z_V} {w : z_W} {Q : z_P} {x y : Int} : z_G d u 300 332 ls (z_i y :: z_i x :: st) w Q ↔ z_G d u 300 333 ls (z_i (z_add x y) :: st) w Q := z_gun ((zF300_3 332 (by decide)).trans rfl)
set_option maxRecDepth 100000 in
theorem g300_333 {d : Nat} {u : Nat × Nat} {ls st : List z_V} {w : z_W} {Q : z_P} {p : Nat} {i : Int} : z_G d u 300 333 ls (z_i i :: z_r p :: st) w Q ↔ ((z_k w p = 100 ∨ z_k w p = 103) ∧ 0 ≤ i ∧ i < z_len w p ∧ (z_rg (z_I w p i) → z_G d u 300 334 ls (z_i (z_I w p i) :: st) w Q)) := z_gun ((zF300_3 333 (by decide)).trans rfl)
set_option maxRecDepth 100000 in
theorem g300_334 {d : Nat} {u : Nat × Nat} {ls st : List z_V} {w : z_W} {Q : z_P} {p : Nat} {x0 : Int} : z_G (d + 1) u 300 334 ls (z_i x0 :: z_r p :: st) w Q ↔ (z_k w p = 11 ∧ z_c8 st 8 = true ∧ 2 ≤ u.1 ∧ 74 ≤ u.2 ∧ z_G d (2, 74) 123 0 [z_r p, z_i x0] [] w (fun r w' => z_G (d + 1) (u.1 - 2, u.2 - 74) 300 337 ls (r.toList ++ st) w' Q)) := z_gcbV (d := d) (m := 300) (pc := 334) (m' := 123) (k := 2) (nL := 2) (nx := 337) (b := (2, 74)) (ci := 11) (p := p) (u := u) (ls := ls) (st := st) (w := w) (Q := Q) (vs := [z_r p, z_i x0]) ((zF300_3 334 (by decide)).trans rfl) rfl rfl
set_option maxRecDepth 100000 in
theorem g300_337 {d : Nat} {u : Nat × Nat} {ls st : List z_V} {w : z_W} {Q : z_P} {x : Int} : z_G d u 300 337 ls (z_i x :: st) w Q ↔ z_G d u 300 338 ls st w Q := z_gun ((zF300_3 337 (by decide)).trans rfl)
set_option maxRecDepth 100000 in
theorem g300_337r {d : Nat} {u : Nat × Nat} {ls st : List z_V} {w : z_W} {Q : z_P} {k : Nat} : z_G d u 300 337 ls (z_r k :: st) w Q ↔ z_G d u 300 338 ls st w Q := z_gun ((zF300_3 337 (by decide)).trans rfl)
set_option maxRecDepth 100000 in
theorem g300_338 {d : Nat} {u : Nat × Nat} {ls st : List z_V} {w : z_W} {Q : z_P} {o : Option Nat} {a0 a1 : z_V} : z_G d u 300 338 (a0 :: a1 :: z_vr o :: ls) st w Q ↔ z_G d u 300 339 (a0 :: a1 :: z_vr o :: ls) (z_vr o :: st) w Q := z_gun ((zF300_3 338 (by decide)).trans rfl)
set_option maxRecDepth 100000 in
theorem g300_338r {d : Nat} {u : Nat × Nat} {ls st : List z_V} {w : z_W} {Q : z_P} {k : Nat} {a0 a1 : z_V} : z_G d u 300 338 (a0 :: a1 :: z_r k :: ls) st w Q ↔ z_G d u 300 339 (a0 :: a1 :: z_r k :: ls) (z_r k :: st) w Q := z_gun ((zF300_3 338 (by decide)).trans rfl)
set_option maxRecDepth 100000 in
theorem g300_339 {d : Nat} {u : Nat × Nat} {ls st : List z_V} {w : z_W} {Q : z_P} {o : Option Nat} : z_G d u 300 339 (z_vr o :: ls) st w Q ↔ z_G d u 300 340 (z_vr o :: ls) (z_vr o :: st) w Q := z_gun ((zF300_3 339 (by decide)).trans rfl)
set_option maxRecDepth 100000 in
theorem g300_339r {d : Nat} {u : Nat × Nat} {ls st : List z_V} {w : z_W} {Q : z_P} {k : Nat} : z_G d u 300 339 (z_r k :: ls) st w Q ↔ z_G d u 300 340 (z_r k :: ls) (z_r k :: st) w Q := z_gun ((zF300_3 339 (by decide)).trans rfl)
set_option maxRecDepth 100000 in
theorem g300_340 {d : Nat} {u : Nat × Nat} {ls st : List z_V} {w : z_W} {Q : z_P} {z : Int} {a0 a1 a2 a3 : z_V} : z_G d u 300 340 (a0 :: a1 :: a2 :: a3 :: z_i z :: ls) st w Q ↔ z_G d u 300 342 (a0 :: a1 :: a2 :: a3 :: z_i z :: ls) (z_i z :: st) w Q := z_gun ((zF300_3 340 (by decide)).trans rfl)
set_option maxRecDepth 100000 in
theorem g300_342 {d : Nat} {u : Nat × Nat} {ls st : List z_V} {w : z_W} {Q : z_P} : z_G d u 300 342 ls st w Q ↔ z_G d u 300 343 ls (z_i (1) :: st) w Q := z_gun ((zF300_3 342 (by decide)).trans rfl)
set_option maxRecDepth 100000 in
theorem g300_343 {d : Nat} {u : Nat × Nat} {ls st : List z_V} {w : z_W} {Q : z_P} {x y : Int} : z_G d u 300 343 ls (z_i y :: z_i x :: st) w Q ↔ z_G d u 300 344 ls (z_i (z_add x y) :: st) w Q := z_gun ((zF300_3 343 (by decide)).trans rfl)
set_option maxRecDepth 100000 in
theorem g300_344 {d : Nat} {u : Nat × Nat} {ls st : List z_V} {w : z_W} {Q : z_P} {p : Nat} {i : Int} : z_G d u 300 344 ls (z_i i :: z_r p :: st) w Q ↔ ((z_k w p = 100 ∨ z_k w p = 103) ∧ 0 ≤ i ∧ i < z_len w p ∧ (z_rg (z_I w p i) → z_G d u 300 345 ls (z_i (z_I w p i) :: st) w Q)) := z_gun ((zF300_3 344 (by decide)).trans rfl)
set_option maxRecDepth 100000 in
theorem g300_345 {d : Nat} {u : Nat × Nat} {ls st : List z_V} {w : z_W} {Q : z_P} {p : Nat} {x0 : Int} : z_G (d + 1) u 300 345 ls (z_i x0 :: z_r p :: st) w Q ↔ (z_k w p = 12 ∧ z_c8 st 8 = true ∧ z_G d (0, 0) 226 0 [z_r p, z_i x0] [] w (fun r w' => z_G (d + 1) u 300 348 ls (r.toList ++ st) w' Q)) := z_gcaV (d := d) (m := 300) (pc := 345) (m' := 226) (k := 2) (nL := 2) (nx := 348) (ci := 12) (p := p) (u := u) (ls := ls) (st := st) (w := w) (Q := Q) (vs := [z_r p, z_i x0]) ((zF300_3 345 (by decide)).trans rfl) rfl rfl
set_option maxRecDepth 100000 in
theorem g300_348 {d : Nat} {u : Nat × Nat} {ls st : List z_V} {w : z_W} {Q : z_P} {x : Int} : z_G d u 300 348 ls (z_i x :: st) w Q ↔ z_G d u 300 349 ls st w Q := z_gun ((zF300_3 348 (by decide)).trans rfl)
set_option maxRecDepth 100000 in
theorem g300_348r {d : Nat} {u : Nat × Nat} {ls st : List z_V} {w : z_W} {Q : z_P} {k : Nat} : z_G d u 300 348 ls (z_r k :: st) w Q ↔ z_G d u 300 349 ls st w Q := z_gun ((zF300_3 348 (by decide)).trans rfl)
set_option maxRecDepth 100000 in
theorem g300_349 {d : Nat} {u : Nat × Nat} {ls st : List z_V} {w : z_W} {Q : z_P} : z_G d u 300 349 ls st w Q ↔ z_G d u 300 1586 ls st w Q := z_gun ((zF300_3 349 (by decide)).trans rfl)
set_option maxRecDepth 100000 in
theorem g300_352 {d : Nat} {u : Nat × Nat} {ls st : List z_V} {w : z_W} {Q : z_P} {o : Option Nat} {a0 : z_V} : z_G d u 300 352 (a0 :: z_vr o :: ls) st w Q ↔ z_G d u 300 353 (a0 :: z_vr o :: ls) (z_vr o :: st) w Q := z_gun ((zF300_3 352 (by decide)).trans rfl)
set_option maxRecDepth 100000 in
theorem g300_352r {d : Nat} {u : Nat × Nat} {ls st : List z_V} {w : z_W} {Q : z_P} {k : Nat} {a0 : z_V} : z_G d u 300 352 (a0 :: z_r k :: ls) st w Q ↔ z_G d u 300 353 (a0 :: z_r k :: ls) (z_r k :: st) w Q := z_gun ((zF300_3 352 (by decide)).trans rfl)
set_option maxRecDepth 100000 in
theorem g300_353 {d : Nat} {u : Nat × Nat} {ls st : List z_V} {w : z_W} {Q : z_P} {o : Option Nat} : z_G d u 300 353 (z_vr o :: ls) st w Q ↔ z_G d u 300 354 (z_vr o :: ls) (z_vr o :: st) w Q := z_gun ((zF300_3 353 (by decide)).trans rfl)
set_option maxRecDepth 100000 in
theorem g300_353r {d : Nat} {u : Nat × Nat} {ls st : List z_V} {w : z_W} {Q : z_P} {k : Nat} : z_G d u 300 353 (z_r k :: ls) st w Q ↔ z_G d u 300 354 (z_r k :: ls) (z_r k :: st) w Q := z_gun ((zF300_3 353 (by decide)).trans rfl)
set_option maxRecDepth 100000 in
theorem g300_354 {d : Nat} {u : Nat × Nat} {ls st : List z_V} {w : z_W} {Q : z_P} {z : Int} {a0 a1 a2 a3 : z_V} : z_G d u 300 354 (a0 :: a1 :: a2 :: a3 :: z_i z :: ls) st w Q ↔ z_G d u 300 356 (a0 :: a1 :: a2 :: a3 :: z_i z :: ls) (z_i z :: st) w Q := z_gun ((zF300_3 354 (by decide)).trans rfl)
set_option maxRecDepth 100000 in
theorem g300_356 {d : Nat} {u : Nat × Nat} {ls st : List z_V} {w : z_W} {Q : z_P} : z_G d u 300 356 ls st w Q ↔ z_G d u 300 357 ls (z_i (1) :: st) w Q := z_gun ((zF300_3 356 (by decide)).trans rfl)
set_option maxRecDepth 100000 in
theorem g300_357 {d : Nat} {u : Nat × Nat} {ls st : List z_V} {w : z_W} {Q : z_P} {x y : Int} : z_G d u 300 357 ls (z_i y :: z_i x :: st) w Q ↔ z_G d u 300 358 ls (z_i (z_add x y) :: st) w Q := z_gun ((zF300_3 357 (by decide)).trans rfl)
set_option maxRecDepth 100000 in
theorem g300_358 {d : Nat} {u : Nat × Nat} {ls st : List z_V} {w : z_W} {Q : z_P} {p : Nat} {i : Int} : z_G d u 300 358 ls (z_i i :: z_r p :: st) w Q ↔ ((z_k w p = 100 ∨ z_k w p = 103) ∧ 0 ≤ i ∧ i < z_len w p ∧ (z_rg (z_I w p i) → z_G d u 300 359 ls (z_i (z_I w p i) :: st) w Q)) := z_gun ((zF300_3 358 (by decide)).trans rfl)
set_option maxRecDepth 100000 in
theorem g300_359 {d : Nat} {u : Nat × Nat} {ls st : List z_V} {w : z_W} {Q : z_P} {p : Nat} {x0 : Int} : z_G (d + 1) u 300 359 ls (z_i x0 :: z_r p :: st) w Q ↔ (z_k w p = 11 ∧ z_c8 st 8 = true ∧ z_G d (0, 0) 126 0 [z_r p, z_i x0] [] w (fun r w' => z_G (d + 1) u 300 362 ls (r.toList ++ st) w' Q)) := z_gcaV (d := d) (m := 300) (pc := 359) (m' := 126) (k := 2) (nL := 2) (nx := 362) (ci := 11) (p := p) (u := u) (ls := ls) (st := st) (w := w) (Q := Q) (vs := [z_r p, z_i x0]) ((zF300_3 359 (by decide)).trans rfl) rfl rfl
set_option maxRecDepth 100000 in
theorem g300_362 {d : Nat} {u : Nat × Nat} {ls st : List z_V} {w : z_W} {Q : z_P} {x : Int} : z_G d u 300 362 ls (z_i x :: st) w Q ↔ z_G d u 300 363 ls st w Q := z_gun ((zF300_3 362 (by decide)).trans rfl)
set_option maxRecDepth 100000 in
theorem g300_362r {d : Nat} {u : Nat × Nat} {ls st : List z_V} {w : z_W} {Q : z_P} {k : Nat} : z_G d u 300 362 ls (z_r k :: st) w Q ↔ z_G d u 300 363 ls st w Q := z_gun ((zF300_3 362 (by decide)).trans rfl)
set_option maxRecDepth 100000 in
theorem g300_363 {d : Nat} {u : Nat × Nat} {ls st : List z_V} {w : z_W} {Q : z_P} {o : Option Nat} {a0 a1 : z_V} : z_G d u 300 363 (a0 :: a1 :: z_vr o :: ls) st w Q ↔ z_G d u 300 364 (a0 :: a1 :: z_vr o :: ls) (z_vr o :: st) w Q := z_gun ((zF300_3 363 (by decide)).trans rfl)
set_option maxRecDepth 100000 in
theorem g300_363r {d : Nat} {u : Nat × Nat} {ls st : List z_V} {w : z_W} {Q : z_P} {k : Nat} {a0 a1 : z_V} : z_G d u 300 363 (a0 :: a1 :: z_r k :: ls) st w Q ↔ z_G d u 300 364 (a0 :: a1 :: z_r k :: ls) (z_r k :: st) w Q := z_gun ((zF300_3 363 (by decide)).trans rfl)
set_option maxRecDepth 100000 in
theorem g300_364 {d : Nat} {u : Nat × Nat} {ls st : List z_V} {w : z_W} {Q : z_P} {o : Option Nat} : z_G d u 300 364 (z_vr o :: ls) st w Q ↔ z_G d u 300 365 (z_vr o :: ls) (z_vr o :: st) w Q := z_gun ((zF300_3 364 (by decide)).trans rfl)
set_option maxRecDepth 100000 in
theorem g300_364r {d : Nat} {u : Nat × Nat} {ls st : List z_V} {w : z_W} {Q : z_P} {k : Nat} : z_G d u 300 364 (z_r k :: ls) st w Q ↔ z_G d u 300 365 (z_r k :: ls) (z_r k :: st) w Q := z_gun ((zF300_3 364 (by decide)).trans rfl)
set_option maxRecDepth 100000 in
theorem g300_365 {d : Nat} {u : Nat × Nat} {ls st : List z_V} {w : z_W} {Q : z_P} {z : Int} {a0 a1 a2 a3 : z_V} : z_G d u 300 365 (a0 :: a1 :: a2 :: a3 :: z_i z :: ls) st w Q ↔ z_G d u 300 367 (a0 :: a1 :: a2 :: a3 :: z_i z :: ls) (z_i z :: st) w Q := z_gun ((zF300_3 365 (by decide)).trans rfl)
set_option maxRecDepth 100000 in
theorem g300_367 {d : Nat} {u : Nat × Nat} {ls st : List z_V} {w : z_W} {Q : z_P} : z_G d u 300 367 ls st w Q ↔ z_G d u 300 368 ls (z_i (1) :: st) w Q := z_gun ((zF300_3 367 (by decide)).trans rfl)
set_option maxRecDepth 100000 in
theorem g300_368 {d : Nat} {u : Nat × Nat} {ls st : List z_V} {w : z_W} {Q : z_P} {x y : Int} : z_G d u 300 368 ls (z_i y :: z_i x :: st) w Q ↔ z_G d u 300 369 ls (z_i (z_add x y) :: st) w Q := z_gun ((zF300_3 368 (by decide)).trans rfl)
set_option maxRecDepth 100000 in
theorem g300_369 {d : Nat} {u : Nat × Nat} {ls st : List z_V} {w : z_W} {Q : z_P} {p : Nat} {i : Int} : z_G d u 300 369 ls (z_i i :: z_r p :: st) w Q ↔ ((z_k w p = 100 ∨ z_k w p = 103) ∧ 0 ≤ i ∧ i < z_len w p ∧ (z_rg (z_I w p i) → z_G d u 300 370 ls (z_i (z_I w p i) :: st) w Q)) := z_gun ((zF300_3 369 (by decide)).trans rfl)
set_option maxRecDepth 100000 in
theorem g300_370 {d : Nat} {u : Nat × Nat} {ls st : List z_V} {w : z_W} {Q : z_P} {p : Nat} {x0 : Int} : z_G (d + 1) u 300 370 ls (z_i x0 :: z_r p :: st) w Q ↔ (z_k w p = 12 ∧ z_c8 st 8 = true ∧ z_G d (0, 0) 253 0 [z_r p, z_i x0] [] w (fun r w' => z_G (d + 1) u 300 373 ls (r.toList ++ st) w' Q)) := z_gcaV (d := d) (m := 300) (pc := 370) (m' := 253) (k := 2) (nL := 2) (nx := 373) (ci := 12) (p := p) (u := u) (ls := ls) (st := st) (w := w) (Q := Q) (vs := [z_r p, z_i x0]) ((zF300_3 370 (by decide)).trans rfl) rfl rfl
set_option maxRecDepth 100000 in
theorem g300_373 {d : Nat} {u : Nat × Nat} {ls st : List z_V} {w : z_W} {Q : z_P} {x : Int} : z_G d u 300 373 ls (z_i x :: st) w Q ↔ z_G d u 300 374 ls st w Q := z_gun ((zF300_3 373 (by decide)).trans rfl)
set_option maxRecDepth 100000 in
theorem g300_373r {d : Nat} {u : Nat × Nat} {ls st : List z_V} {w : z_W} {Q : z_P} {k : Nat} : z_G d u 300 373 ls (z_r k :: st) w Q ↔ z_G d u 300 374 ls st w Q := z_gun ((zF300_3 373 (by decide)).trans rfl)
set_option maxRecDepth 100000 in
theorem g300_374 {d : Nat} {u : Nat × Nat} {ls st : List z_V} {w : z_W} {Q : z_P} : z_G d u 300 374 ls st w Q ↔ z_G d u 300 1586 ls st w Q := z_gun ((zF300_3 374 (by decide)).trans rfl)
set_option maxRecDepth 100000 in
theorem g300_377 {d : Nat} {u : Nat × Nat} {ls st : List z_V} {w : z_W} {Q : z_P} {o : Option Nat} {a0 : z_V} : z_G d u 300 377 (a0 :: z_vr o :: ls) st w Q ↔ z_G d u 300 378 (a0 :: z_vr o :: ls) (z_vr o :: st) w Q := z_gun ((zF300_3 377 (by decide)).trans rfl)
set_option maxRecDepth 100000 in
theorem g300_377r {d : Nat} {u : Nat × Nat} {ls st : List z_V} {w : z_W} {Q : z_P} {k : Nat} {a0 : z_V} : z_G d u 300 377 (a0 :: z_r k :: ls) st w Q ↔ z_G d u 300 378 (a0 :: z_r k :: ls) (z_r k :: st) w Q := z_gun ((zF300_3 377 (by decide)).trans rfl)
set_option maxRecDepth 100000 in
theorem g300_378 {d : Nat} {u : Nat × Nat} {ls st : List z_V} {w : z_W} {Q : z_P} {o : Option Nat} : z_G d u 300 378 (z_vr o :: ls) st w Q ↔ z_G d u 300 379 (z_vr o :: ls) (z_vr o :: st) w Q := z_gun ((zF300_3 378 (by decide)).trans rfl)
set_option maxRecDepth 100000 in
theorem g300_378r {d : Nat} {u : Nat × Nat} {ls st : List z_V} {w : z_W} {Q : z_P} {k : Nat} : z_G d u 300 378 (z_r k :: ls) st w Q ↔ z_G d u 300 379 (z_r k :: ls) (z_r k :: st) w Q := z_gun ((zF300_3 378 (by decide)).trans rfl)
set_option maxRecDepth 100000 in
theorem g300_379 {d : Nat} {u : Nat × Nat} {ls st : List z_V} {w : z_W} {Q : z_P} {z : Int} {a0 a1 a2 a3 : z_V} : z_G d u 300 379 (a0 :: a1 :: a2 :: a3 :: z_i z :: ls) st w Q ↔ z_G d u 300 381 (a0 :: a1 :: a2 :: a3 :: z_i z :: ls) (z_i z :: st) w Q := z_gun ((zF300_3 379 (by decide)).trans rfl)
set_option maxRecDepth 100000 in
theorem g300_381 {d : Nat} {u : Nat × Nat} {ls st : List z_V} {w : z_W} {Q : z_P} : z_G d u 300 381 ls st w Q ↔ z_G d u 300 382 ls (z_i (1) :: st) w Q := z_gun ((zF300_3 381 (by decide)).trans rfl)
set_option maxRecDepth 100000 in
theorem g300_382 {d : Nat} {u : Nat × Nat} {ls st : List z_V} {w : z_W} {Q : z_P} {x y : Int} : z_G d u 300 382 ls (z_i y :: z_i x :: st) w Q ↔ z_G d u 300 383 ls (z_i (z_add x y) :: st) w Q := z_gun ((zF300_3 382 (by decide)).trans rfl)
set_option maxRecDepth 100000 in
theorem g300_383 {d : Nat} {u : Nat × Nat} {ls st : List z_V} {w : z_W} {Q : z_P} {p : Nat} {i : Int} : z_G d u 300 383 ls (z_i i :: z_r p :: st) w Q ↔ ((z_k w p = 100 ∨ z_k w p = 103) ∧ 0 ≤ i ∧ i < z_len w p ∧ (z_rg (z_I w p i) → z_G d u 300 384 ls (z_i (z_I w p i) :: st) w Q)) := z_gun ((zF300_3 383 (by decide)).trans rfl)
set_option maxRecDepth 100000 in
theorem g300_384 {d : Nat} {u : Nat × Nat} {ls st : List z_V} {w : z_W} {Q : z_P} {o : Option Nat} : z_G d u 300 384 (z_vr o :: ls) st w Q ↔ z_G d u 300 385 (z_vr o :: ls) (z_vr o :: st) w Q := z_gun ((zF300_3 384 (by decide)).trans rfl)
set_option maxRecDepth 100000 in
theorem g300_384r {d : Nat} {u : Nat × Nat} {ls st : List z_V} {w : z_W} {Q : z_P} {k : Nat} : z_G d u 300 384 (z_r k :: ls) st w Q ↔ z_G d u 300 385 (z_r k :: ls) (z_r k :: st) w Q := z_gun ((zF300_3 384 (by decide)).trans rfl)
set_option maxRecDepth 100000 in
theorem g300_385 {d : Nat} {u : Nat × Nat} {ls st : List z_V} {w : z_W} {Q : z_P} {z : Int} {a0 a1 a2 a3 : z_V} : z_G d u 300 385 (a0 :: a1 :: a2 :: a3 :: z_i z :: ls) st w Q ↔ z_G d u 300 387 (a0 :: a1 :: a2 :: a3 :: z_i z :: ls) (z_i z :: st) w Q := z_gun ((zF300_3 385 (by decide)).trans rfl)
set_option maxRecDepth 100000 in
theorem g300_387 {d : Nat} {u : Nat × Nat} {ls st : List z_V} {w : z_W} {Q : z_P} : z_G d u 300 387 ls st w Q ↔ z_G d u 300 388 ls (z_i (2) :: st) w Q := z_gun ((zF300_3 387 (by decide)).trans rfl)
set_option maxRecDepth 100000 in
theorem g300_388 {d : Nat} {u : Nat × Nat} {ls st : List z_V} {w : z_W} {Q : z_P} {x y : Int} : z_G d u 300 388 ls (z_i y :: z_i x :: st) w Q ↔ z_G d u 300 389 ls (z_i (z_add x y) :: st) w Q := z_gun ((zF300_3 388 (by decide)).trans rfl)
set_option maxRecDepth 100000 in
theorem g300_389 {d : Nat} {u : Nat × Nat} {ls st : List z_V} {w : z_W} {Q : z_P} {p : Nat} {i : Int} : z_G d u 300 389 ls (z_i i :: z_r p :: st) w Q ↔ ((z_k w p = 100 ∨ z_k w p = 103) ∧ 0 ≤ i ∧ i < z_len w p ∧ (z_rg (z_I w p i) → z_G d u 300 390 ls (z_i (z_I w p i) :: st) w Q)) := z_gun ((zF300_4 389 (by decide)).trans rfl)
set_option maxRecDepth 100000 in
theorem g300_390 {d : Nat} {u : Nat × Nat} {ls st : List z_V} {w : z_W} {Q : z_P} {o : Option Nat} {a0 a1 a2 : z_V} : z_G d u 300 390 (a0 :: a1 :: a2 :: z_vr o :: ls) st w Q ↔ z_G d u 300 391 (a0 :: a1 :: a2 :: z_vr o :: ls) (z_vr o :: st) w Q := z_gun ((zF300_4 390 (by decide)).trans rfl)
set_option maxRecDepth 100000 in
theorem g300_390r {d : Nat} {u : Nat × Nat} {ls st : List z_V} {w : z_W} {Q : z_P} {k : Nat} {a0 a1 a2 : z_V} : z_G d u 300 390 (a0 :: a1 :: a2 :: z_r k :: ls) st w Q ↔ z_G d u 300 391 (a0 :: a1 :: a2 :: z_r k :: ls) (z_r k :: st) w Q := z_gun ((zF300_4 390 (by decide)).trans rfl)
set_option maxRecDepth 100000 in
theorem g300_391 {d : Nat} {u : Nat × Nat} {ls st : List z_V} {w : z_W} {Q : z_P} {q0 q3 : Nat} {x1 x2 : Int} : z_G (d + 1) u 300 391 ls (z_r q3 :: z_i x2 :: z_i x1 :: z_r q0 :: st) w Q ↔ (z_c8 st 8 = true ∧ 1 ≤ u.1 ∧ 6 ≤ u.2 ∧ z_G d (1, 6) 299 0 [z_r q0, z_i x1, z_i x2, z_r q3, z_x] [] w (fun r w' => z_G (d + 1) (u.1 - 1, u.2 - 6) 300 394 ls (r.toList ++ st) w' Q)) := z_gcbS (d := d) (m := 300) (pc := 391) (m' := 299) (k := 4) (nL := 5) (nx := 394) (b := (1, 6)) (u := u) (ls := ls) (st := st) (w := w) (Q := Q) (vs := [z_r q0, z_i x1, z_i x2, z_r q3]) ((zF300_4 391 (by decide)).trans rfl) rfl rfl
set_option maxRecDepth 100000 in
theorem g300_394 {d : Nat} {u : Nat × Nat} {ls st : List z_V} {w : z_W} {Q : z_P} {z : Int} {a0 a1 a2 a3 a4 a5 : z_V} : z_G d u 300 394 (a0 :: a1 :: a2 :: a3 :: a4 :: a5 :: ls) (z_i z :: st) w Q ↔ z_G d u 300 396 (a0 :: a1 :: a2 :: a3 :: z_kl a4 :: z_i z :: ls) st w Q := z_gun ((zF300_4 394 (by decide)).trans rfl)
set_option maxRecDepth 100000 in
theorem g300_396 {d : Nat} {u : Nat × Nat} {ls st : List z_V} {w : z_W} {Q : z_P} {o : Option Nat} {a0 a1 : z_V} : z_G d u 300 396 (a0 :: a1 :: z_vr o :: ls) st w Q ↔ z_G d u 300 397 (a0 :: a1 :: z_vr o :: ls) (z_vr o :: st) w Q := z_gun ((zF300_4 396 (by decide)).trans rfl)
set_option maxRecDepth 100000 in
theorem g300_396r {d : Nat} {u : Nat × Nat} {ls st : List z_V} {w : z_W} {Q : z_P} {k : Nat} {a0 a1 : z_V} : z_G d u 300 396 (a0 :: a1 :: z_r k :: ls) st w Q ↔ z_G d u 300 397 (a0 :: a1 :: z_r k :: ls) (z_r k :: st) w Q := z_gun ((zF300_4 396 (by decide)).trans rfl)
set_option maxRecDepth 100000 in
theorem g300_397 {d : Nat} {u : Nat × Nat} {ls st : List z_V} {w : z_W} {Q : z_P} {o : Option Nat} : z_G d u 300 397 (z_vr o :: ls) st w Q ↔ z_G d u 300 398 (z_vr o :: ls) (z_vr o :: st) w Q := z_gun ((zF300_4 397 (by decide)).trans rfl)
set_option maxRecDepth 100000 in
theorem g300_397r {d : Nat} {u : Nat × Nat} {ls st : List z_V} {w : z_W} {Q : z_P} {k : Nat} : z_G d u 300 397 (z_r k :: ls) st w Q ↔ z_G d u 300 398 (z_r k :: ls) (z_r k :: st) w Q := z_gun ((zF300_4 397 (by decide)).trans rfl)
set_option maxRecDepth 100000 in
theorem g300_398 {d : Nat} {u : Nat × Nat} {ls st : List z_V} {w : z_W} {Q : z_P} {z : Int} {a0 a1 a2 a3 : z_V} : z_G d u 300 398 (a0 :: a1 :: a2 :: a3 :: z_i z :: ls) st w Q ↔ z_G d u 300 400 (a0 :: a1 :: a2 :: a3 :: z_i z :: ls) (z_i z :: st) w Q := z_gun ((zF300_4 398 (by decide)).trans rfl)
set_option maxRecDepth 100000 in
theorem g300_400 {d : Nat} {u : Nat × Nat} {ls st : List z_V} {w : z_W} {Q : z_P} : z_G d u 300 400 ls st w Q ↔ z_G d u 300 401 ls (z_i (1) :: st) w Q := z_gun ((zF300_4 400 (by decide)).trans rfl)
set_option maxRecDepth 100000 in
theorem g300_401 {d : Nat} {u : Nat × Nat} {ls st : List z_V} {w : z_W} {Q : z_P} {x y : Int} : z_G d u 300 401 ls (z_i y :: z_i x :: st) w Q ↔ z_G d u 300 402 ls (z_i (z_add x y) :: st) w Q := z_gun ((zF300_4 401 (by decide)).trans rfl)
set_option maxRecDepth 100000 in
theorem g300_402 {d : Nat} {u : Nat × Nat} {ls st : List z_V} {w : z_W} {Q : z_P} {p : Nat} {i : Int} : z_G d u 300 402 ls (z_i i :: z_r p :: st) w Q ↔ ((z_k w p = 100 ∨ z_k w p = 103) ∧ 0 ≤ i ∧ i < z_len w p ∧ (z_rg (z_I w p i) → z_G d u 300 403 ls (z_i (z_I w p i) :: st) w Q)) := z_gun ((zF300_4 402 (by decide)).trans rfl)
set_option maxRecDepth 100000 in
theorem g300_403 {d : Nat} {u : Nat × Nat} {ls st : List z_V} {w : z_W} {Q : z_P} {o : Option Nat} : z_G d u 300 403 (z_vr o :: ls) st w Q ↔ z_G d u 300 404 (z_vr o :: ls) (z_vr o :: st) w Q := z_gun ((zF300_4 403 (by decide)).trans rfl)
set_option maxRecDepth 100000 in
theorem g300_403r {d : Nat} {u : Nat × Nat} {ls st : List z_V} {w : z_W} {Q : z_P} {k : Nat} : z_G d u 300 403 (z_r k :: ls) st w Q ↔ z_G d u 300 404 (z_r k :: ls) (z_r k :: st) w Q := z_gun ((zF300_4 403 (by decide)).trans rfl)
set_option maxRecDepth 100000 in
theorem g300_404 {d : Nat} {u : Nat × Nat} {ls st : List z_V} {w : z_W} {Q : z_P} {z : Int} {a0 a1 a2 a3 : z_V} : z_G d u 300 404 (a0 :: a1 :: a2 :: a3 :: z_i z :: ls) st w Q ↔ z_G d u 300 406 (a0 :: a1 :: a2 :: a3 :: z_i z :: ls) (z_i z :: st) w Q := z_gun ((zF300_4 404 (by decide)).trans rfl)
set_option maxRecDepth 100000 in
theorem g300_406 {d : Nat} {u : Nat × Nat} {ls st : List z_V} {w : z_W} {Q : z_P} : z_G d u 300 406 ls st w Q ↔ z_G d u 300 407 ls (z_i (2) :: st) w Q := z_gun ((zF300_4 406 (by decide)).trans rfl)
set_option maxRecDepth 100000 in
theorem g300_407 {d : Nat} {u : Nat × Nat} {ls st : List z_V} {w : z_W} {Q : z_P} {x y : Int} : z_G d u 300 407 ls (z_i y :: z_i x :: st) w Q ↔ z_G d u 300 408 ls (z_i (z_add x y) :: st) w Q := z_gun ((zF300_4 407 (by decide)).trans rfl)
set_option maxRecDepth 100000 in
theorem g300_408 {d : Nat} {u : Nat × Nat} {ls st : List z_V} {w : z_W} {Q : z_P} {p : Nat} {i : Int} : z_G d u 300 408 ls (z_i i :: z_r p :: st) w Q ↔ ((z_k w p = 100 ∨ z_k w p = 103) ∧ 0 ≤ i ∧ i < z_len w p ∧ (z_rg (z_I w p i) → z_G d u 300 409 ls (z_i (z_I w p i) :: st) w Q)) := z_gun ((zF300_4 408 (by decide)).trans rfl)
set_option maxRecDepth 100000 in
theorem g300_409 {d : Nat} {u : Nat × Nat} {ls st : List z_V} {w : z_W} {Q : z_P} {p : Nat} {x0 x1 : Int} : z_G (d + 1) u 300 409 ls (z_i x1 :: z_i x0 :: z_r p :: st) w Q ↔ (z_k w p = 12 ∧ z_c8 st 8 = true ∧ z_G d (0, 0) 254 0 [z_r p, z_i x0, z_i x1, z_x, z_x] [] w (fun r w' => z_G (d + 1) u 300 412 ls (r.toList ++ st) w' Q)) := z_gcaV (d := d) (m := 300) (pc := 409) (m' := 254) (k := 3) (nL := 5) (nx := 412) (ci := 12) (p := p) (u := u) (ls := ls) (st := st) (w := w) (Q := Q) (vs := [z_r p, z_i x0, z_i x1]) ((zF300_4 409 (by decide)).trans rfl) rfl rfl
set_option maxRecDepth 100000 in
theorem g300_412 {d : Nat} {u : Nat × Nat} {ls st : List z_V} {w : z_W} {Q : z_P} {z : Int} {a0 a1 a2 a3 a4 a5 a6 : z_V} : z_G d u 300 412 (a0 :: a1 :: a2 :: a3 :: a4 :: a5 :: a6 :: ls) (z_i z :: st) w Q ↔ z_G d u 300 414 (a0 :: a1 :: a2 :: a3 :: a4 :: z_kl a5 :: z_i z :: ls) st w Q := z_gun ((zF300_4 412 (by decide)).trans rfl)
set_option maxRecDepth 100000 in
theorem g300_414 {d : Nat} {u : Nat × Nat} {ls st : List z_V} {w : z_W} {Q : z_P} : z_G d u 300 414 ls st w Q ↔ z_G d u 300 1586 ls st w Q := z_gun ((zF300_4 414 (by decide)).trans rfl)
set_option maxRecDepth 100000 in
theorem g300_417 {d : Nat} {u : Nat × Nat} {ls st : List z_V} {w : z_W} {Q : z_P} {o : Option Nat} {a0 : z_V} : z_G d u 300 417 (a0 :: z_vr o :: ls) st w Q ↔ z_G d u 300 418 (a0 :: z_vr o :: ls) (z_vr o :: st) w Q := z_gun ((zF300_4 417 (by decide)).trans rfl)
set_option maxRecDepth 100000 in
theorem g300_417r {d : Nat} {u : Nat × Nat} {ls st : List z_V} {w : z_W} {Q : z_P} {k : Nat} {a0 : z_V} : z_G d u 300 417 (a0 :: z_r k :: ls) st w Q ↔ z_G d u 300 418 (a0 :: z_r k :: ls) (z_r k :: st) w Q := z_gun ((zF300_4 417 (by decide)).trans rfl)
set_option maxRecDepth 100000 in
theorem g300_418 {d : Nat} {u : Nat × Nat} {ls st : List z_V} {w : z_W} {Q : z_P} {o : Option Nat} : z_G d u 300 418 (z_vr o :: ls) st w Q ↔ z_G d u 300 419 (z_vr o :: ls) (z_vr o :: st) w Q := z_gun ((zF300_4 418 (by decide)).trans rfl)
set_option maxRecDepth 100000 in
theorem g300_418r {d : Nat} {u : Nat × Nat} {ls st : List z_V} {w : z_W} {Q : z_P} {k : Nat} : z_G d u 300 418 (z_r k :: ls) st w Q ↔ z_G d u 300 419 (z_r k :: ls) (z_r k :: st) w Q := z_gun ((zF300_4 418 (by decide)).trans rfl)
set_option maxRecDepth 100000 in
theorem g300_419 {d : Nat} {u : Nat × Nat} {ls st : List z_V} {w : z_W} {Q : z_P} {z : Int} {a0 a1 a2 a3 : z_V} : z_G d u 300 419 (a0 :: a1 :: a2 :: a3 :: z_i z :: ls) st w Q ↔ z_G d u 300 421 (a0 :: a1 :: a2 :: a3 :: z_i z :: ls) (z_i z :: st) w Q := z_gun ((zF300_4 419 (by decide)).trans rfl)
set_option maxRecDepth 100000 in
theorem g300_421 {d : Nat} {u : Nat × Nat} {ls st : List z_V} {w : z_W} {Q : z_P} : z_G d u 300 421 ls st w Q ↔ z_G d u 300 422 ls (z_i (1) :: st) w Q := z_gun ((zF300_4 421 (by decide)).trans rfl)
set_option maxRecDepth 100000 in
theorem g300_422 {d : Nat} {u : Nat × Nat} {ls st : List z_V} {w : z_W} {Q : z_P} {x y : Int} : z_G d u 300 422 ls (z_i y :: z_i x :: st) w Q ↔ z_G d u 300 423 ls (z_i (z_add x y) :: st) w Q := z_gun ((zF300_4 422 (by decide)).trans rfl)
set_option maxRecDepth 100000 in
theorem g300_423 {d : Nat} {u : Nat × Nat} {ls st : List z_V} {w : z_W} {Q : z_P} {p : Nat} {i : Int} : z_G d u 300 423 ls (z_i i :: z_r p :: st) w Q ↔ ((z_k w p = 100 ∨ z_k w p = 103) ∧ 0 ≤ i ∧ i < z_len w p ∧ (z_rg (z_I w p i) → z_G d u 300 424 ls (z_i (z_I w p i) :: st) w Q)) := z_gun ((zF300_4 423 (by decide)).trans rfl)
set_option maxRecDepth 100000 in
theorem g300_424 {d : Nat} {u : Nat × Nat} {ls st : List z_V} {w : z_W} {Q : z_P} {o : Option Nat} : z_G d u 300 424 (z_vr o :: ls) st w Q ↔ z_G d u 300 425 (z_vr o :: ls) (z_vr o :: st) w Q := z_gun ((zF300_4 424 (by decide)).trans rfl)
set_option maxRecDepth 100000 in
theorem g300_424r {d : Nat} {u : Nat × Nat} {ls st : List z_V} {w : z_W} {Q : z_P} {k : Nat} : z_G d u 300 424 (z_r k :: ls) st w Q ↔ z_G d u 300 425 (z_r k :: ls) (z_r k :: st) w Q := z_gun ((zF300_4 424 (by decide)).trans rfl)
set_option maxRecDepth 100000 in
theorem g300_425 {d : Nat} {u : Nat × Nat} {ls st : List z_V} {w : z_W} {Q : z_P} {z : Int} {a0 a1 a2 a3 : z_V} : z_G d u 300 425 (a0 :: a1 :: a2 :: a3 :: z_i z :: ls) st w Q ↔ z_G d u 300 427 (a0 :: a1 :: a2 :: a3 :: z_i z :: ls) (z_i z :: st) w Q := z_gun ((zF300_4 425 (by decide)).trans rfl)
set_option maxRecDepth 100000 in
theorem g300_427 {d : Nat} {u : Nat × Nat} {ls st : List z_V} {w : z_W} {Q : z_P} : z_G d u 300 427 ls st w Q ↔ z_G d u 300 428 ls (z_i (2) :: st) w Q := z_gun ((zF300_4 427 (by decide)).trans rfl)
set_option maxRecDepth 100000 in
theorem g300_428 {d : Nat} {u : Nat × Nat} {ls st : List z_V} {w : z_W} {Q : z_P} {x y : Int} : z_G d u 300 428 ls (z_i y :: z_i x :: st) w Q ↔ z_G d u 300 429 ls (z_i (z_add x y) :: st) w Q := z_gun ((zF300_4 428 (by decide)).trans rfl)
set_option maxRecDepth 100000 in
theorem g300_429 {d : Nat} {u : Nat × Nat} {ls st : List z_V} {w : z_W} {Q : z_P} {p : Nat} {i : Int} : z_G d u 300 429 ls (z_i i :: z_r p :: st) w Q ↔ ((z_k w p = 100 ∨ z_k w p = 103) ∧ 0 ≤ i ∧ i < z_len w p ∧ (z_rg (z_I w p i) → z_G d u 300 430 ls (z_i (z_I w p i) :: st) w Q)) := z_gun ((zF300_4 429 (by decide)).trans rfl)
set_option maxRecDepth 100000 in
theorem g300_430 {d : Nat} {u : Nat × Nat} {ls st : List z_V} {w : z_W} {Q : z_P} {p : Nat} {x0 x1 : Int} : z_G (d + 1) u 300 430 ls (z_i x1 :: z_i x0 :: z_r p :: st) w Q ↔ (z_k w p = 11 ∧ z_c8 st 8 = true ∧ z_G d (0, 0) 129 0 [z_r p, z_i x0, z_i x1, z_x] [] w (fun r w' => z_G (d + 1) u 300 433 ls (r.toList ++ st) w' Q)) := z_gcaV (d := d) (m := 300) (pc := 430) (m' := 129) (k := 3) (nL := 4) (nx := 433) (ci := 11) (p := p) (u := u) (ls := ls) (st := st) (w := w) (Q := Q) (vs := [z_r p, z_i x0, z_i x1]) ((zF300_4 430 (by decide)).trans rfl) rfl rfl
set_option maxRecDepth 100000 in
theorem g300_433 {d : Nat} {u : Nat × Nat} {ls st : List z_V} {w : z_W} {Q : z_P} {x : Int} : z_G d u 300 433 ls (z_i x :: st) w Q ↔ z_G d u 300 434 ls st w Q := z_gun ((zF300_4 433 (by decide)).trans rfl)
set_option maxRecDepth 100000 in
theorem g300_433r {d : Nat} {u : Nat × Nat} {ls st : List z_V} {w : z_W} {Q : z_P} {k : Nat} : z_G d u 300 433 ls (z_r k :: st) w Q ↔ z_G d u 300 434 ls st w Q := z_gun ((zF300_4 433 (by decide)).trans rfl)
set_option maxRecDepth 100000 in
theorem g300_434 {d : Nat} {u : Nat × Nat} {ls st : List z_V} {w : z_W} {Q : z_P} {o : Option Nat} {a0 a1 : z_V} : z_G d u 300 434 (a0 :: a1 :: z_vr o :: ls) st w Q ↔ z_G d u 300 435 (a0 :: a1 :: z_vr o :: ls) (z_vr o :: st) w Q := z_gun ((zF300_4 434 (by decide)).trans rfl)
set_option maxRecDepth 100000 in
theorem g300_434r {d : Nat} {u : Nat × Nat} {ls st : List z_V} {w : z_W} {Q : z_P} {k : Nat} {a0 a1 : z_V} : z_G d u 300 434 (a0 :: a1 :: z_r k :: ls) st w Q ↔ z_G d u 300 435 (a0 :: a1 :: z_r k :: ls) (z_r k :: st) w Q := z_gun ((zF300_4 434 (by decide)).trans rfl)
set_option maxRecDepth 100000 in
theorem g300_435 {d : Nat} {u : Nat × Nat} {ls st : List z_V} {w : z_W} {Q : z_P} {o : Option Nat} : z_G d u 300 435 (z_vr o :: ls) st w Q ↔ z_G d u 300 436 (z_vr o :: ls) (z_vr o :: st) w Q := z_gun ((zF300_4 435 (by decide)).trans rfl)
set_option maxRecDepth 100000 in
theorem g300_435r {d : Nat} {u : Nat × Nat} {ls st : List z_V} {w : z_W} {Q : z_P} {k : Nat} : z_G d u 300 435 (z_r k :: ls) st w Q ↔ z_G d u 300 436 (z_r k :: ls) (z_r k :: st) w Q := z_gun ((zF300_4 435 (by decide)).trans rfl)
set_option maxRecDepth 100000 in
theorem g300_436 {d : Nat} {u : Nat × Nat} {ls st : List z_V} {w : z_W} {Q : z_P} {z : Int} {a0 a1 a2 a3 : z_V} : z_G d u 300 436 (a0 :: a1 :: a2 :: a3 :: z_i z :: ls) st w Q ↔ z_G d u 300 438 (a0 :: a1 :: a2 :: a3 :: z_i z :: ls) (z_i z :: st) w Q := z_gun ((zF300_4 436 (by decide)).trans rfl)
set_option maxRecDepth 100000 in
theorem g300_438 {d : Nat} {u : Nat × Nat} {ls st : List z_V} {w : z_W} {Q : z_P} : z_G d u 300 438 ls st w Q ↔ z_G d u 300 439 ls (z_i (1) :: st) w Q := z_gun ((zF300_4 438 (by decide)).trans rfl)
set_option maxRecDepth 100000 in
theorem g300_439 {d : Nat} {u : Nat × Nat} {ls st : List z_V} {w : z_W} {Q : z_P} {x y : Int} : z_G d u 300 439 ls (z_i y :: z_i x :: st) w Q ↔ z_G d u 300 440 ls (z_i (z_add x y) :: st) w Q := z_gun ((zF300_4 439 (by decide)).trans rfl)
set_option maxRecDepth 100000 in
theorem g300_440 {d : Nat} {u : Nat × Nat} {ls st : List z_V} {w : z_W} {Q : z_P} {p : Nat} {i : Int} : z_G d u 300 440 ls (z_i i :: z_r p :: st) w Q ↔ ((z_k w p = 100 ∨ z_k w p = 103) ∧ 0 ≤ i ∧ i < z_len w p ∧ (z_rg (z_I w p i) → z_G d u 300 441 ls (z_i (z_I w p i) :: st) w Q)) := z_gun ((zF300_4 440 (by decide)).trans rfl)
set_option maxRecDepth 100000 in
theorem g300_441 {d : Nat} {u : Nat × Nat} {ls st : List z_V} {w : z_W} {Q : z_P} {o : Option Nat} : z_G d u 300 441 (z_vr o :: ls) st w Q ↔ z_G d u 300 442 (z_vr o :: ls) (z_vr o :: st) w Q := z_gun ((zF300_4 441 (by decide)).trans rfl)
set_option maxRecDepth 100000 in
theorem g300_441r {d : Nat} {u : Nat × Nat} {ls st : List z_V} {w : z_W} {Q : z_P} {k : Nat} : z_G d u 300 441 (z_r k :: ls) st w Q ↔ z_G d u 300 442 (z_r k :: ls) (z_r k :: st) w Q := z_gun ((zF300_4 441 (by decide)).trans rfl)
set_option maxRecDepth 100000 in
theorem g300_442 {d : Nat} {u : Nat × Nat} {ls st : List z_V} {w : z_W} {Q : z_P} {z : Int} {a0 a1 a2 a3 : z_V} : z_G d u 300 442 (a0 :: a1 :: a2 :: a3 :: z_i z :: ls) st w Q ↔ z_G d u 300 444 (a0 :: a1 :: a2 :: a3 :: z_i z :: ls) (z_i z :: st) w Q := z_gun ((zF300_4 442 (by decide)).trans rfl)
set_option maxRecDepth 100000 in
theorem g300_444 {d : Nat} {u : Nat × Nat} {ls st : List z_V} {w : z_W} {Q : z_P} : z_G d u 300 444 ls st w Q ↔ z_G d u 300 445 ls (z_i (2) :: st) w Q := z_gun ((zF300_4 444 (by decide)).trans rfl)
set_option maxRecDepth 100000 in
theorem g300_445 {d : Nat} {u : Nat × Nat} {ls st : List z_V} {w : z_W} {Q : z_P} {x y : Int} : z_G d u 300 445 ls (z_i y :: z_i x :: st) w Q ↔ z_G d u 300 446 ls (z_i (z_add x y) :: st) w Q := z_gun ((zF300_5 445 (by decide)).trans rfl)
set_option maxRecDepth 100000 in
theorem g300_446 {d : Nat} {u : Nat × Nat} {ls st : List z_V} {w : z_W} {Q : z_P} {p : Nat} {i : Int} : z_G d u 300 446 ls (z_i i :: z_r p :: st) w Q ↔ ((z_k w p = 100 ∨ z_k w p = 103) ∧ 0 ≤ i ∧ i < z_len w p ∧ (z_rg (z_I w p i) → z_G d u 300 447 ls (z_i (z_I w p i) :: st) w Q)) := z_gun ((zF300_5 446 (by decide)).trans rfl)
set_option maxRecDepth 100000 in
theorem g300_447 {d : Nat} {u : Nat × Nat} {ls st : List z_V} {w : z_W} {Q : z_P} {p : Nat} {x0 x1 : Int} : z_G (d + 1) u 300 447 ls (z_i x1 :: z_i x0 :: z_r p :: st) w Q ↔ (z_k w p = 12 ∧ z_c8 st 8 = true ∧ z_G d (0, 0) 255 0 [z_r p, z_i x0, z_i x1] [] w (fun r w' => z_G (d + 1) u 300 450 ls (r.toList ++ st) w' Q)) := z_gcaV (d := d) (m := 300) (pc := 447) (m' := 255) (k := 3) (nL := 3) (nx := 450) (ci := 12) (p := p) (u := u) (ls := ls) (st := st) (w := w) (Q := Q) (vs := [z_r p, z_i x0, z_i x1]) ((zF300_5 447 (by decide)).trans rfl) rfl rfl
set_option maxRecDepth 100000 in
theorem g300_450 {d : Nat} {u : Nat × Nat} {ls st : List z_V} {w : z_W} {Q : z_P} {x : Int} : z_G d u 300 450 ls (z_i x :: st) w Q ↔ z_G d u 300 451 ls st w Q := z_gun ((zF300_5 450 (by decide)).trans rfl)
set_option maxRecDepth 100000 in
theorem g300_450r {d : Nat} {u : Nat × Nat} {ls st : List z_V} {w : z_W} {Q : z_P} {k : Nat} : z_G d u 300 450 ls (z_r k :: st) w Q ↔ z_G d u 300 451 ls st w Q := z_gun ((zF300_5 450 (by decide)).trans rfl)
set_option maxRecDepth 100000 in
theorem g300_451 {d : Nat} {u : Nat × Nat} {ls st : List z_V} {w : z_W} {Q : z_P} : z_G d u 300 451 ls st w Q ↔ z_G d u 300 1586 ls st w Q := z_gun ((zF300_5 451 (by decide)).trans rfl)
set_option maxRecDepth 100000 in
theorem g300_454 {d : Nat} {u : Nat × Nat} {ls st : List z_V} {w : z_W} {Q : z_P} {o : Option Nat} {a0 : z_V} : z_G d u 300 454 (a0 :: z_vr o :: ls) st w Q ↔ z_G d u 300 455 (a0 :: z_vr o :: ls) (z_vr o :: st) w Q := z_gun ((zF300_5 454 (by decide)).trans rfl)
set_option maxRecDepth 100000 in
theorem g300_454r {d : Nat} {u : Nat × Nat} {ls st : List z_V} {w : z_W} {Q : z_P} {k : Nat} {a0 : z_V} : z_G d u 300 454 (a0 :: z_r k :: ls) st w Q ↔ z_G d u 300 455 (a0 :: z_r k :: ls) (z_r k :: st) w Q := z_gun ((zF300_5 454 (by decide)).trans rfl)
set_option maxRecDepth 100000 in
theorem g300_455 {d : Nat} {u : Nat × Nat} {ls st : List z_V} {w : z_W} {Q : z_P} {o : Option Nat} : z_G d u 300 455 (z_vr o :: ls) st w Q ↔ z_G d u 300 456 (z_vr o :: ls) (z_vr o :: st) w Q := z_gun ((zF300_5 455 (by decide)).trans rfl)
set_option maxRecDepth 100000 in
theorem g300_455r {d : Nat} {u : Nat × Nat} {ls st : List z_V} {w : z_W} {Q : z_P} {k : Nat} : z_G d u 300 455 (z_r k :: ls) st w Q ↔ z_G d u 300 456 (z_r k :: ls) (z_r k :: st) w Q := z_gun ((zF300_5 455 (by decide)).trans rfl)
set_option maxRecDepth 100000 in
theorem g300_456 {d : Nat} {u : Nat × Nat} {ls st : List z_V} {w : z_W} {Q : z_P} {z : Int} {a0 a1 a2 a3 : z_V} : z_G d u 300 456 (a0 :: a1 :: a2 :: a3 :: z_i z :: ls) st w Q ↔ z_G d u 300 458 (a0 :: a1 :: a2 :: a3 :: z_i z :: ls) (z_i z :: st) w Q := z_gun ((zF300_5 456 (by decide)).trans rfl)
set_option maxRecDepth 100000 in
theorem g300_458 {d : Nat} {u : Nat × Nat} {ls st : List z_V} {w : z_W} {Q : z_P} : z_G d u 300 458 ls st w Q ↔ z_G d u 300 459 ls (z_i (1) :: st) w Q := z_gun ((zF300_5 458 (by decide)).trans rfl)
set_option maxRecDepth 100000 in
theorem g300_459 {d : Nat} {u : Nat × Nat} {ls st : List z_V} {w : z_W} {Q : z_P} {x y : Int} : z_G d u 300 459 ls (z_i y :: z_i x :: st) w Q ↔ z_G d u 300 460 ls (z_i (z_add x y) :: st) w Q := z_gun ((zF300_5 459 (by decide)).trans rfl)
set_option maxRecDepth 100000 in
theorem g300_460 {d : Nat} {u : Nat × Nat} {ls st : List z_V} {w : z_W} {Q : z_P} {p : Nat} {i : Int} : z_G d u 300 460 ls (z_i i :: z_r p :: st) w Q ↔ ((z_k w p = 100 ∨ z_k w p = 103) ∧ 0 ≤ i ∧ i < z_len w p ∧ (z_rg (z_I w p i) → z_G d u 300 461 ls (z_i (z_I w p i) :: st) w Q)) := z_gun ((zF300_5 460 (by decide)).trans rfl)
set_option maxRecDepth 100000 in
theorem g300_461 {d : Nat} {u : Nat × Nat} {ls st : List z_V} {w : z_W} {Q : z_P} {o : Option Nat} : z_G d u 300 461 (z_vr o :: ls) st w Q ↔ z_G d u 300 462 (z_vr o :: ls) (z_vr o :: st) w Q := z_gun ((zF300_5 461 (by decide)).trans rfl)
set_option maxRecDepth 100000 in
theorem g300_461r {d : Nat} {u : Nat × Nat} {ls st : List z_V} {w : z_W} {Q : z_P} {k : Nat} : z_G d u 300 461 (z_r k :: ls) st w Q ↔ z_G d u 300 462 (z_r k :: ls) (z_r k :: st) w Q := z_gun ((zF300_5 461 (by decide)).trans rfl)
set_option maxRecDepth 100000 in
theorem g300_462 {d : Nat} {u : Nat × Nat} {ls st : List z_V} {w : z_W} {Q : z_P} {z : Int} {a0 a1 a2 a3 : z_V} : z_G d u 300 462 (a0 :: a1 :: a2 :: a3 :: z_i z :: ls) st w Q ↔ z_G d u 300 464 (a0 :: a1 :: a2 :: a3 :: z_i z :: ls) (z_i z :: st) w Q := z_gun ((zF300_5 462 (by decide)).trans rfl)
set_option maxRecDepth 100000 in
theorem g300_464 {d : Nat} {u : Nat × Nat} {ls st : List z_V} {w : z_W} {Q : z_P} : z_G d u 300 464 ls st w Q ↔ z_G d u 300 465 ls (z_i (2) :: st) w Q := z_gun ((zF300_5 464 (by decide)).trans rfl)
set_option maxRecDepth 100000 in
theorem g300_465 {d : Nat} {u : Nat × Nat} {ls st : List z_V} {w : z_W} {Q : z_P} {x y : Int} : z_G d u 300 465 ls (z_i y :: z_i x :: st) w Q ↔ z_G d u 300 466 ls (z_i (z_add x y) :: st) w Q := z_gun ((zF300_5 465 (by decide)).trans rfl)
set_option maxRecDepth 100000 in
theorem g300_466 {d : Nat} {u : Nat × Nat} {ls st : List z_V} {w : z_W} {Q : z_P} {p : Nat} {i : Int} : z_G d u 300 466 ls (z_i i :: z_r p :: st) w Q ↔ ((z_k w p = 100 ∨ z_k w p = 103) ∧ 0 ≤ i ∧ i < z_len w p ∧ (z_rg (z_I w p i) → z_G d u 300 467 ls (z_i (z_I w p i) :: st) w Q)) := z_gun ((zF300_5 466 (by decide)).trans rfl)
set_option maxRecDepth 100000 in
theorem g300_467 {d : Nat} {u : Nat × Nat} {ls st : List z_V} {w : z_W} {Q : z_P} {p : Nat} {x0 x1 : Int} : z_G (d + 1) u 300 467 ls (z_i x1 :: z_i x0 :: z_r p :: st) w Q ↔ (z_k w p = 11 ∧ z_c8 st 8 = true ∧ z_G d (0, 0) 130 0 [z_r p, z_i x0, z_i x1] [] w (fun r w' => z_G (d + 1) u 300 470 ls (r.toList ++ st) w' Q)) := z_gcaV (d := d) (m := 300) (pc := 467) (m' := 130) (k := 3) (nL := 3) (nx := 470) (ci := 11) (p := p) (u := u) (ls := ls) (st := st) (w := w) (Q := Q) (vs := [z_r p, z_i x0, z_i x1]) ((zF300_5 467 (by decide)).trans rfl) rfl rfl
set_option maxRecDepth 100000 in
theorem g300_470 {d : Nat} {u : Nat × Nat} {ls st : List z_V} {w : z_W} {Q : z_P} {x : Int} : z_G d u 300 470 ls (z_i x :: st) w Q ↔ z_G d u 300 471 ls st w Q := z_gun ((zF300_5 470 (by decide)).trans rfl)
set_option maxRecDepth 100000 in
theorem g300_470r {d : Nat} {u : Nat × Nat} {ls st : List z_V} {w : z_W} {Q : z_P} {k : Nat} : z_G d u 300 470 ls (z_r k :: st) w Q ↔ z_G d u 300 471 ls st w Q := z_gun ((zF300_5 470 (by decide)).trans rfl)
set_option maxRecDepth 100000 in
theorem g300_471 {d : Nat} {u : Nat × Nat} {ls st : List z_V} {w : z_W} {Q : z_P} {o : Option Nat} {a0 a1 : z_V} : z_G d u 300 471 (a0 :: a1 :: z_vr o :: ls) st w Q ↔ z_G d u 300 472 (a0 :: a1 :: z_vr o :: ls) (z_vr o :: st) w Q := z_gun ((zF300_5 471 (by decide)).trans rfl)
set_option maxRecDepth 100000 in
theorem g300_471r {d : Nat} {u : Nat × Nat} {ls st : List z_V} {w : z_W} {Q : z_P} {k : Nat} {a0 a1 : z_V} : z_G d u 300 471 (a0 :: a1 :: z_r k :: ls) st w Q ↔ z_G d u 300 472 (a0 :: a1 :: z_r k :: ls) (z_r k :: st) w Q := z_gun ((zF300_5 471 (by decide)).trans rfl)
set_option maxRecDepth 100000 in
theorem g300_472 {d : Nat} {u : Nat × Nat} {ls st : List z_V} {w : z_W} {Q : z_P} {o : Option Nat} : z_G d u 300 472 (z_vr o :: ls) st w Q ↔ z_G d u 300 473 (z_vr o :: ls) (z_vr o :: st) w Q := z_gun ((zF300_5 472 (by decide)).trans rfl)
set_option maxRecDepth 100000 in
theorem g300_472r {d : Nat} {u : Nat × Nat} {ls st : List z_V} {w : z_W} {Q : z_P} {k : Nat} : z_G d u 300 472 (z_r k :: ls) st w Q ↔ z_G d u 300 473 (z_r k :: ls) (z_r k :: st) w Q := z_gun ((zF300_5 472 (by decide)).trans rfl)
set_option maxRecDepth 100000 in
theorem g300_473 {d : Nat} {u : Nat × Nat} {ls st : List z_V} {w : z_W} {Q : z_P} {z : Int} {a0 a1 a2 a3 : z_V} : z_G d u 300 473 (a0 :: a1 :: a2 :: a3 :: z_i z :: ls) st w Q ↔ z_G d u 300 475 (a0 :: a1 :: a2 :: a3 :: z_i z :: ls) (z_i z :: st) w Q := z_gun ((zF300_5 473 (by decide)).trans rfl)
set_option maxRecDepth 100000 in
theorem g300_475 {d : Nat} {u : Nat × Nat} {ls st : List z_V} {w : z_W} {Q : z_P} : z_G d u 300 475 ls st w Q ↔ z_G d u 300 476 ls (z_i (1) :: st) w Q := z_gun ((zF300_5 475 (by decide)).trans rfl)
set_option maxRecDepth 100000 in
theorem g300_476 {d : Nat} {u : Nat × Nat} {ls st : List z_V} {w : z_W} {Q : z_P} {x y : Int} : z_G d u 300 476 ls (z_i y :: z_i x :: st) w Q ↔ z_G d u 300 477 ls (z_i (z_add x y) :: st) w Q := z_gun ((zF300_5 476 (by decide)).trans rfl)
set_option maxRecDepth 100000 in
theorem g300_477 {d : Nat} {u : Nat × Nat} {ls st : List z_V} {w : z_W} {Q : z_P} {p : Nat} {i : Int} : z_G d u 300 477 ls (z_i i :: z_r p :: st) w Q ↔ ((z_k w p = 100 ∨ z_k w p = 103) ∧ 0 ≤ i ∧ i < z_len w p ∧ (z_rg (z_I w p i) → z_G d u 300 478 ls (z_i (z_I w p i) :: st) w Q)) := z_gun ((zF300_5 477 (by decide)).trans rfl)
set_option maxRecDepth 100000 in
theorem g300_478 {d : Nat} {u : Nat × Nat} {ls st : List z_V} {w : z_W} {Q : z_P} {o : Option Nat} : z_G d u 300 478 (z_vr o :: ls) st w Q ↔ z_G d u 300 479 (z_vr o :: ls) (z_vr o :: st) w Q := z_gun ((zF300_5 478 (by decide)).trans rfl)
set_option maxRecDepth 100000 in
theorem g300_478r {d : Nat} {u : Nat × Nat} {ls st : List z_V} {w : z_W} {Q : z_P} {k : Nat} : z_G d u 300 478 (z_r k :: ls) st w Q ↔ z_G d u 300 479 (z_r k :: ls) (z_r k :: st) w Q := z_gun ((zF300_5 478 (by decide)).trans rfl)
set_option maxRecDepth 100000 in
theorem g300_479 {d : Nat} {u : Nat × Nat} {ls st : List z_V} {w : z_W} {Q : z_P} {z : Int} {a0 a1 a2 a3 : z_V} : z_G d u 300 479 (a0 :: a1 :: a2 :: a3 :: z_i z :: ls) st w Q ↔ z_G d u 300 481 (a0 :: a1 :: a2 :: a3 :: z_i z :: ls) (z_i z :: st) w Q := z_gun ((zF300_5 479 (by decide)).trans rfl)
set_option maxRecDepth 100000 in
theorem g300_481 {d : Nat} {u : Nat × Nat} {ls st : List z_V} {w : z_W} {Q : z_P} : z_G d u 300 481 ls st w Q ↔ z_G d u 300 482 ls (z_i (2) :: st) w Q := z_gun ((zF300_5 481 (by decide)).trans rfl)
set_option maxRecDepth 100000 in
theorem g300_482 {d : Nat} {u : Nat × Nat} {ls st : List z_V} {w : z_W} {Q : z_P} {x y : Int} : z_G d u 300 482 ls (z_i y :: z_i x :: st) w Q ↔ z_G d u 300 483 ls (z_i (z_add x y) :: st) w Q := z_gun ((zF300_5 482 (by decide)).trans rfl)
set_option maxRecDepth 100000 in
theorem g300_483 {d : Nat} {u : Nat × Nat} {ls st : List z_V} {w : z_W} {Q : z_P} {p : Nat} {i : Int} : z_G d u 300 483 ls (z_i i :: z_r p :: st) w Q ↔ ((z_k w p = 100 ∨ z_k w p = 103) ∧ 0 ≤ i ∧ i < z_len w p ∧ (z_rg (z_I w p i) → z_G d u 300 484 ls (z_i (z_I w p i) :: st) w Q)) := z_gun ((zF300_5 483 (by decide)).trans rfl)
set_option maxRecDepth 100000 in
theorem g300_484 {d : Nat} {u : Nat × Nat} {ls st : List z_V} {w : z_W} {Q : z_P} {p : Nat} {x0 x1 : Int} : z_G (d + 1) u 300 484 ls (z_i x1 :: z_i x0 :: z_r p :: st) w Q ↔ (z_k w p = 12 ∧ z_c8 st 8 = true ∧ z_G d (0, 0) 256 0 [z_r p, z_i x0, z_i x1] [] w (fun r w' => z_G (d + 1) u 300 487 ls (r.toList ++ st) w' Q)) := z_gcaV (d := d) (m := 300) (pc := 484) (m' := 256) (k := 3) (nL := 3) (nx := 487) (ci := 12) (p := p) (u := u) (ls := ls) (st := st) (w := w) (Q := Q) (vs := [z_r p, z_i x0, z_i x1]) ((zF300_5 484 (by decide)).trans rfl) rfl rfl
set_option maxRecDepth 100000 in
theorem g300_487 {d : Nat} {u : Nat × Nat} {ls st : List z_V} {w : z_W} {Q : z_P} {x : Int} : z_G d u 300 487 ls (z_i x :: st) w Q ↔ z_G d u 300 488 ls st w Q := z_gun ((zF300_5 487 (by decide)).trans rfl)
set_option maxRecDepth 100000 in
theorem g300_487r {d : Nat} {u : Nat × Nat} {ls st : List z_V} {w : z_W} {Q : z_P} {k : Nat} : z_G d u 300 487 ls (z_r k :: st) w Q ↔ z_G d u 300 488 ls st w Q := z_gun ((zF300_5 487 (by decide)).trans rfl)
set_option maxRecDepth 100000 in
theorem g300_488 {d : Nat} {u : Nat × Nat} {ls st : List z_V} {w : z_W} {Q : z_P} : z_G d u 300 488 ls st w Q ↔ z_G d u 300 1586 ls st w Q := z_gun ((zF300_5 488 (by decide)).trans rfl)
set_option maxRecDepth 100000 in
theorem g300_491 {d : Nat} {u : Nat × Nat} {ls st : List z_V} {w : z_W} {Q : z_P} {o : Option Nat} {a0 : z_V} : z_G d u 300 491 (a0 :: z_vr o :: ls) st w Q ↔ z_G d u 300 492 (a0 :: z_vr o :: ls) (z_vr o :: st) w Q := z_gun ((zF300_5 491 (by decide)).trans rfl)
set_option maxRecDepth 100000 in
theorem g300_491r {d : Nat} {u : Nat × Nat} {ls st : List z_V} {w : z_W} {Q : z_P} {k : Nat} {a0 : z_V} : z_G d u 300 491 (a0 :: z_r k :: ls) st w Q ↔ z_G d u 300 492 (a0 :: z_r k :: ls) (z_r k :: st) w Q := z_gun ((zF300_5 491 (by decide)).trans rfl)
set_option maxRecDepth 100000 in
theorem g300_492 {d : Nat} {u : Nat × Nat} {ls st : List z_V} {w : z_W} {Q : z_P} {o : Option Nat} : z_G d u 300 492 (z_vr o :: ls) st w Q ↔ z_G d u 300 493 (z_vr o :: ls) (z_vr o :: st) w Q := z_gun ((zF300_5 492 (by decide)).trans rfl)
set_option maxRecDepth 100000 in
theorem g300_492r {d : Nat} {u : Nat × Nat} {ls st : List z_V} {w : z_W} {Q : z_P} {k : Nat} : z_G d u 300 492 (z_r k :: ls) st w Q ↔ z_G d u 300 493 (z_r k :: ls) (z_r k :: st) w Q := z_gun ((zF300_5 492 (by decide)).trans rfl)
set_option maxRecDepth 100000 in
theorem g300_493 {d : Nat} {u : Nat × Nat} {ls st : List z_V} {w : z_W} {Q : z_P} {z : Int} {a0 a1 a2 a3 : z_V} : z_G d u 300 493 (a0 :: a1 :: a2 :: a3 :: z_i z :: ls) st w Q ↔ z_G d u 300 495 (a0 :: a1 :: a2 :: a3 :: z_i z :: ls) (z_i z :: st) w Q := z_gun ((zF300_5 493 (by decide)).trans rfl)
set_option maxRecDepth 100000 in
theorem g300_495 {d : Nat} {u : Nat × Nat} {ls st : List z_V} {w : z_W} {Q : z_P} : z_G d u 300 495 ls st w Q ↔ z_G d u 300 496 ls (z_i (1) :: st) w Q := z_gun ((zF300_5 495 (by decide)).trans rfl)
set_option maxRecDepth 100000 in
theorem g300_496 {d : Nat} {u : Nat × Nat} {ls st : List z_V} {w : z_W} {Q : z_P} {x y : Int} : z_G d u 300 496 ls (z_i y :: z_i x :: st) w Q ↔ z_G d u 300 497 ls (z_i (z_add x y) :: st) w Q := z_gun ((zF300_5 496 (by decide)).trans rfl)
set_option maxRecDepth 100000 in
theorem g300_497 {d : Nat} {u : Nat × Nat} {ls st : List z_V} {w : z_W} {Q : z_P} {p : Nat} {i : Int} : z_G d u 300 497 ls (z_i i :: z_r p :: st) w Q ↔ ((z_k w p = 100 ∨ z_k w p = 103) ∧ 0 ≤ i ∧ i < z_len w p ∧ (z_rg (z_I w p i) → z_G d u 300 498 ls (z_i (z_I w p i) :: st) w Q)) := z_gun ((zF300_5 497 (by decide)).trans rfl)
set_option maxRecDepth 100000 in
theorem g300_498 {d : Nat} {u : Nat × Nat} {ls st : List z_V} {w : z_W} {Q : z_P} {o : Option Nat} : z_G d u 300 498 (z_vr o :: ls) st w Q ↔ z_G d u 300 499 (z_vr o :: ls) (z_vr o :: st) w Q := z_gun ((zF300_5 498 (by decide)).trans rfl)
set_option maxRecDepth 100000 in
theorem g300_498r {d : Nat} {u : Nat × Nat} {ls st : List z_V} {w : z_W} {Q : z_P} {k : Nat} : z_G d u 300 498 (z_r k :: ls) st w Q ↔ z_G d u 300 499 (z_r k :: ls) (z_r k :: st) w Q := z_gun ((zF300_5 498 (by decide)).trans rfl)
set_option maxRecDepth 100000 in
theorem g300_499 {d : Nat} {u : Nat × Nat} {ls st : List z_V} {w : z_W} {Q : z_P} {z : Int} {a0 a1 a2 a3 : z_V} : z_G d u 300 499 (a0 :: a1 :: a2 :: a3 :: z_i z :: ls) st w Q ↔ z_G d u 300 501 (a0 :: a1 :: a2 :: a3 :: z_i z :: ls) (z_i z :: st) w Q := z_gun ((zF300_5 499 (by decide)).trans rfl)
set_option maxRecDepth 100000 in
theorem g300_501 {d : Nat} {u : Nat × Nat} {ls st : List z_V} {w : z_W} {Q : z_P} : z_G d u 300 501 ls st w Q ↔ z_G d u 300 502 ls (z_i (2) :: st) w Q := z_gun ((zF300_6 501 (by decide)).trans rfl)
set_option maxRecDepth 100000 in
theorem g300_502 {d : Nat} {u : Nat × Nat} {ls st : List z_V} {w : z_W} {Q : z_P} {x y : Int} : z_G d u 300 502 ls (z_i y :: z_i x :: st) w Q ↔ z_G d u 300 503 ls (z_i (z_add x y) :: st) w Q := z_gun ((zF300_6 502 (by decide)).trans rfl)
set_option maxRecDepth 100000 in
theorem g300_503 {d : Nat} {u : Nat × Nat} {ls st : List z_V} {w : z_W} {Q : z_P} {p : Nat} {i : Int} : z_G d u 300 503 ls (z_i i :: z_r p :: st) w Q ↔ ((z_k w p = 100 ∨ z_k w p = 103) ∧ 0 ≤ i ∧ i < z_len w p ∧ (z_rg (z_I w p i) → z_G d u 300 504 ls (z_i (z_I w p i) :: st) w Q)) := z_gun ((zF300_6 503 (by decide)).trans rfl)
set_option maxRecDepth 100000 in
theorem g300_504 {d : Nat} {u : Nat × Nat} {ls st : List z_V} {w : z_W} {Q : z_P} {o : Option Nat} : z_G d u 300 504 (z_vr o :: ls) st w Q ↔ z_G d u 300 505 (z_vr o :: ls) (z_vr o :: st) w Q := z_gun ((zF300_6 504 (by decide)).trans rfl)
set_option maxRecDepth 100000 in
theorem g300_504r {d : Nat} {u : Nat × Nat} {ls st : List z_V} {w : z_W} {Q : z_P} {k : Nat} : z_G d u 300 504 (z_r k :: ls) st w Q ↔ z_G d u 300 505 (z_r k :: ls) (z_r k :: st) w Q := z_gun ((zF300_6 504 (by decide)).trans rfl)
set_option maxRecDepth 100000 in
theorem g300_505 {d : Nat} {u : Nat × Nat} {ls st : List z_V} {w : z_W} {Q : z_P} {z : Int} {a0 a1 a2 a3 : z_V} : z_G d u 300 505 (a0 :: a1 :: a2 :: a3 :: z_i z :: ls) st w Q ↔ z_G d u 300 507 (a0 :: a1 :: a2 :: a3 :: z_i z :: ls) (z_i z :: st) w Q := z_gun ((zF300_6 505 (by decide)).trans rfl)
set_option maxRecDepth 100000 in
theorem g300_507 {d : Nat} {u : Nat × Nat} {ls st : List z_V} {w : z_W} {Q : z_P} : z_G d u 300 507 ls st w Q ↔ z_G d u 300 508 ls (z_i (3) :: st) w Q := z_gun ((zF300_6 507 (by decide)).trans rfl)
set_option maxRecDepth 100000 in
theorem g300_508 {d : Nat} {u : Nat × Nat} {ls st : List z_V} {w : z_W} {Q : z_P} {x y : Int} : z_G d u 300 508 ls (z_i y :: z_i x :: st) w Q ↔ z_G d u 300 509 ls (z_i (z_add x y) :: st) w Q := z_gun ((zF300_6 508 (by decide)).trans rfl)
set_option maxRecDepth 100000 in
theorem g300_509 {d : Nat} {u : Nat × Nat} {ls st : List z_V} {w : z_W} {Q : z_P} {p : Nat} {i : Int} : z_G d u 300 509 ls (z_i i :: z_r p :: st) w Q ↔ ((z_k w p = 100 ∨ z_k w p = 103) ∧ 0 ≤ i ∧ i < z_len w p ∧ (z_rg (z_I w p i) → z_G d u 300 510 ls (z_i (z_I w p i) :: st) w Q)) := z_gun ((zF300_6 509 (by decide)).trans rfl)
set_option maxRecDepth 100000 in
theorem g300_510 {d : Nat} {u : Nat × Nat} {ls st : List z_V} {w : z_W} {Q : z_P} {o : Option Nat} : z_G d u 300 510 (z_vr o :: ls) st w Q ↔ z_G d u 300 511 (z_vr o :: ls) (z_vr o :: st) w Q := z_gun ((zF300_6 510 (by decide)).trans rfl)
set_option maxRecDepth 100000 in
theorem g300_510r {d : Nat} {u : Nat × Nat} {ls st : List z_V} {w : z_W} {Q : z_P} {k : Nat} : z_G d u 300 510 (z_r k :: ls) st w Q ↔ z_G d u 300 511 (z_r k :: ls) (z_r k :: st) w Q := z_gun ((zF300_6 510 (by decide)).trans rfl)
set_option maxRecDepth 100000 in
theorem g300_511 {d : Nat} {u : Nat × Nat} {ls st : List z_V} {w : z_W} {Q : z_P} {z : Int} {a0 a1 a2 a3 : z_V} : z_G d u 300 511 (a0 :: a1 :: a2 :: a3 :: z_i z :: ls) st w Q ↔ z_G d u 300 513 (a0 :: a1 :: a2 :: a3 :: z_i z :: ls) (z_i z :: st) w Q := z_gun ((zF300_6 511 (by decide)).trans rfl)
set_option maxRecDepth 100000 in
theorem g300_513 {d : Nat} {u : Nat × Nat} {ls st : List z_V} {w : z_W} {Q : z_P} : z_G d u 300 513 ls st w Q ↔ z_G d u 300 514 ls (z_i (4) :: st) w Q := z_gun ((zF300_6 513 (by decide)).trans rfl)
set_option maxRecDepth 100000 in
theorem g300_514 {d : Nat} {u : Nat × Nat} {ls st : List z_V} {w : z_W} {Q : z_P} {x y : Int} : z_G d u 300 514 ls (z_i y :: z_i x :: st) w Q ↔ z_G d u 300 515 ls (z_i (z_add x y) :: st) w Q := z_gun ((zF300_6 514 (by decide)).trans rfl)
set_option maxRecDepth 100000 in
theorem g300_515 {d : Nat} {u : Nat × Nat} {ls st : List z_V} {w : z_W} {Q : z_P} {p : Nat} {i : Int} : z_G d u 300 515 ls (z_i i :: z_r p :: st) w Q ↔ ((z_k w p = 100 ∨ z_k w p = 103) ∧ 0 ≤ i ∧ i < z_len w p ∧ (z_rg (z_I w p i) → z_G d u 300 516 ls (z_i (z_I w p i) :: st) w Q)) := z_gun ((zF300_6 515 (by decide)).trans rfl)
set_option maxRecDepth 100000 in
theorem g300_516 {d : Nat} {u : Nat × Nat} {ls st : List z_V} {w : z_W} {Q : z_P} {p : Nat} {x0 x1 x2 x3 : Int} : z_G (d + 1) u 300 516 ls (z_i x3 :: z_i x2 :: z_i x1 :: z_i x0 :: z_r p :: st) w Q ↔ (z_k w p = 11 ∧ z_c8 st 8 = true ∧ z_G d (0, 0) 131 0 [z_r p, z_i x0, z_i x1, z_i x2, z_i x3, z_x, z_x, z_x] [] w (fun r w' => z_G (d + 1) u 300 519 ls (r.toList ++ st) w' Q)) := z_gcaV (d := d) (m := 300) (pc := 516) (m' := 131) (k := 5) (nL := 8) (nx := 519) (ci := 11) (p := p) (u := u) (ls := ls) (st := st) (w := w) (Q := Q) (vs := [z_r p, z_i x0, z_i x1, z_i x2, z_i x3]) ((zF300_6 516 (by decide)).trans rfl) rfl rfl
set_option maxRecDepth 100000 in
theorem g300_519 {d : Nat} {u : Nat × Nat} {ls st : List z_V} {w : z_W} {Q : z_P} {x : Int} : z_G d u 300 519 ls (z_i x :: st) w Q ↔ z_G d u 300 520 ls st w Q := z_gun ((zF300_6 519 (by decide)).trans rfl)
set_option maxRecDepth 100000 in
theorem g300_519r {d : Nat} {u : Nat × Nat} {ls st : List z_V} {w : z_W} {Q : z_P} {k : Nat} : z_G d u 300 519 ls (z_r k :: st) w Q ↔ z_G d u 300 520 ls st w Q := z_gun ((zF300_6 519 (by decide)).trans rfl)
set_option maxRecDepth 100000 in
theorem g300_520 {d : Nat} {u : Nat × Nat} {ls st : List z_V} {w : z_W} {Q : z_P} {o : Option Nat} {a0 a1 : z_V} : z_G d u 300 520 (a0 :: a1 :: z_vr o :: ls) st w Q ↔ z_G d u 300 521 (a0 :: a1 :: z_vr o :: ls) (z_vr o :: st) w Q := z_gun ((zF300_6 520 (by decide)).trans rfl)
set_option maxRecDepth 100000 in
theorem g300_520r {d : Nat} {u : Nat × Nat} {ls st : List z_V} {w : z_W} {Q : z_P} {k : Nat} {a0 a1 : z_V} : z_G d u 300 520 (a0 :: a1 :: z_r k :: ls) st w Q ↔ z_G d u 300 521 (a0 :: a1 :: z_r k :: ls) (z_r k :: st) w Q := z_gun ((zF300_6 520 (by decide)).trans rfl)
set_option maxRecDepth 100000 in
theorem g300_521 {d : Nat} {u : Nat × Nat} {ls st : List z_V} {w : z_W} {Q : z_P} {o : Option Nat} : z_G d u 300 521 (z_vr o :: ls) st w Q ↔ z_G d u 300 522 (z_vr o :: ls) (z_vr o :: st) w Q := z_gun ((zF300_6 521 (by decide)).trans rfl)
set_option maxRecDepth 100000 in
theorem g300_521r {d : Nat} {u : Nat × Nat} {ls st : List z_V} {w : z_W} {Q : z_P} {k : Nat} : z_G d u 300 521 (z_r k :: ls) st w Q ↔ z_G d u 300 522 (z_r k :: ls) (z_r k :: st) w Q := z_gun ((zF300_6 521 (by decide)).trans rfl)
set_option maxRecDepth 100000 in
theorem g300_522 {d : Nat} {u : Nat × Nat} {ls st : List z_V} {w : z_W} {Q : z_P} {z : Int} {a0 a1 a2 a3 : z_V} : z_G d u 300 522 (a0 :: a1 :: a2 :: a3 :: z_i z :: ls) st w Q ↔ z_G d u 300 524 (a0 :: a1 :: a2 :: a3 :: z_i z :: ls) (z_i z :: st) w Q := z_gun ((zF300_6 522 (by decide)).trans rfl)
set_option maxRecDepth 100000 in
theorem g300_524 {d : Nat} {u : Nat × Nat} {ls st : List z_V} {w : z_W} {Q : z_P} : z_G d u 300 524 ls st w Q ↔ z_G d u 300 525 ls (z_i (1) :: st) w Q := z_gun ((zF300_6 524 (by decide)).trans rfl)
set_option maxRecDepth 100000 in
theorem g300_525 {d : Nat} {u : Nat × Nat} {ls st : List z_V} {w : z_W} {Q : z_P} {x y : Int} : z_G d u 300 525 ls (z_i y :: z_i x :: st) w Q ↔ z_G d u 300 526 ls (z_i (z_add x y) :: st) w Q := z_gun ((zF300_6 525 (by decide)).trans rfl)
set_option maxRecDepth 100000 in
theorem g300_526 {d : Nat} {u : Nat × Nat} {ls st : List z_V} {w : z_W} {Q : z_P} {p : Nat} {i : Int} : z_G d u 300 526 ls (z_i i :: z_r p :: st) w Q ↔ ((z_k w p = 100 ∨ z_k w p = 103) ∧ 0 ≤ i ∧ i < z_len w p ∧ (z_rg (z_I w p i) → z_G d u 300 527 ls (z_i (z_I w p i) :: st) w Q)) := z_gun ((zF300_6 526 (by decide)).trans rfl)
set_option maxRecDepth 100000 in
theorem g300_527 {d : Nat} {u : Nat × Nat} {ls st : List z_V} {w : z_W} {Q : z_P} {o : Option Nat} : z_G d u 300 527 (z_vr o :: ls) st w Q ↔ z_G d u 300 528 (z_vr o :: ls) (z_vr o :: st) w Q := z_gun ((zF300_6 527 (by decide)).trans rfl)
set_option maxRecDepth 100000 in
theorem g300_527r {d : Nat} {u : Nat × Nat} {ls st : List z_V} {w : z_W} {Q : z_P} {k : Nat} : z_G d u 300 527 (z_r k :: ls) st w Q ↔ z_G d u 300 528 (z_r k :: ls) (z_r k :: st) w Q := z_gun ((zF300_6 527 (by decide)).trans rfl)
set_option maxRecDepth 100000 in
theorem g300_528 {d : Nat} {u : Nat × Nat} {ls st : List z_V} {w : z_W} {Q : z_P} {z : Int} {a0 a1 a2 a3 : z_V} : z_G d u 300 528 (a0 :: a1 :: a2 :: a3 :: z_i z :: ls) st w Q ↔ z_G d u 300 530 (a0 :: a1 :: a2 :: a3 :: z_i z :: ls) (z_i z :: st) w Q := z_gun ((zF300_6 528 (by decide)).trans rfl)
set_option maxRecDepth 100000 in
theorem g300_530 {d : Nat} {u : Nat × Nat} {ls st : List z_V} {w : z_W} {Q : z_P} : z_G d u 300 530 ls st w Q ↔ z_G d u 300 531 ls (z_i (2) :: st) w Q := z_gun ((zF300_6 530 (by decide)).trans rfl)
set_option maxRecDepth 100000 in
theorem g300_531 {d : Nat} {u : Nat × Nat} {ls st : List z_V} {w : z_W} {Q : z_P} {x y : Int} : z_G d u 300 531 ls (z_i y :: z_i x :: st) w Q ↔ z_G d u 300 532 ls (z_i (z_add x y) :: st) w Q := z_gun ((zF300_6 531 (by decide)).trans rfl)
set_option maxRecDepth 100000 in
theorem g300_532 {d : Nat} {u : Nat × Nat} {ls st : List z_V} {w : z_W} {Q : z_P} {p : Nat} {i : Int} : z_G d u 300 532 ls (z_i i :: z_r p :: st) w Q ↔ ((z_k w p = 100 ∨ z_k w p = 103) ∧ 0 ≤ i ∧ i < z_len w p ∧ (z_rg (z_I w p i) → z_G d u 300 533 ls (z_i (z_I w p i) :: st) w Q)) := z_gun ((zF300_6 532 (by decide)).trans rfl)
set_option maxRecDepth 100000 in
theorem g300_533 {d : Nat} {u : Nat × Nat} {ls st : List z_V} {w : z_W} {Q : z_P} {o : Option Nat} : z_G d u 300 533 (z_vr o :: ls) st w Q ↔ z_G d u 300 534 (z_vr o :: ls) (z_vr o :: st) w Q := z_gun ((zF300_6 533 (by decide)).trans rfl)
set_option maxRecDepth 100000 in
theorem g300_533r {d : Nat} {u : Nat × Nat} {ls st : List z_V} {w : z_W} {Q : z_P} {k : Nat} : z_G d u 300 533 (z_r k :: ls) st w Q ↔ z_G d u 300 534 (z_r k :: ls) (z_r k :: st) w Q := z_gun ((zF300_6 533 (by decide)).trans rfl)
set_option maxRecDepth 100000 in
theorem g300_534 {d : Nat} {u : Nat × Nat} {ls st : List z_V} {w : z_W} {Q : z_P} {z : Int} {a0 a1 a2 a3 : z_V} : z_G d u 300 534 (a0 :: a1 :: a2 :: a3 :: z_i z :: ls) st w Q ↔ z_G d u 300 536 (a0 :: a1 :: a2 :: a3 :: z_i z :: ls) (z_i z :: st) w Q := z_gun ((zF300_6 534 (by decide)).trans rfl)
set_option maxRecDepth 100000 in
theorem g300_536 {d : Nat} {u : Nat × Nat} {ls st : List z_V} {w : z_W} {Q : z_P} : z_G d u 300 536 ls st w Q ↔ z_G d u 300 537 ls (z_i (3) :: st) w Q := z_gun ((zF300_6 536 (by decide)).trans rfl)
set_option maxRecDepth 100000 in
theorem g300_537 {d : Nat} {u : Nat × Nat} {ls st : List z_V} {w : z_W} {Q : z_P} {x y : Int} : z_G d u 300 537 ls (z_i y :: z_i x :: st) w Q ↔ z_G d u 300 538 ls (z_i (z_add x y) :: st) w Q := z_gun ((zF300_6 537 (by decide)).trans rfl)
set_option maxRecDepth 100000 in
theorem g300_538 {d : Nat} {u : Nat × Nat} {ls st : List z_V} {w : z_W} {Q : z_P} {p : Nat} {i : Int} : z_G d u 300 538 ls (z_i i :: z_r p :: st) w Q ↔ ((z_k w p = 100 ∨ z_k w p = 103) ∧ 0 ≤ i ∧ i < z_len w p ∧ (z_rg (z_I w p i) → z_G d u 300 539 ls (z_i (z_I w p i) :: st) w Q)) := z_gun ((zF300_6 538 (by decide)).trans rfl)
set_option maxRecDepth 100000 in
theorem g300_539 {d : Nat} {u : Nat × Nat} {ls st : List z_V} {w : z_W} {Q : z_P} {o : Option Nat} : z_G d u 300 539 (z_vr o :: ls) st w Q ↔ z_G d u 300 540 (z_vr o :: ls) (z_vr o :: st) w Q := z_gun ((zF300_6 539 (by decide)).trans rfl)
set_option maxRecDepth 100000 in
theorem g300_539r {d : Nat} {u : Nat × Nat} {ls st : List z_V} {w : z_W} {Q : z_P} {k : Nat} : z_G d u 300 539 (z_r k :: ls) st w Q ↔ z_G d u 300 540 (z_r k :: ls) (z_r k :: st) w Q := z_gun ((zF300_6 539 (by decide)).trans rfl)
set_option maxRecDepth 100000 in
theorem g300_540 {d : Nat} {u : Nat × Nat} {ls st : List z_V} {w : z_W} {Q : z_P} {z : Int} {a0 a1 a2 a3 : z_V} : z_G d u 300 540 (a0 :: a1 :: a2 :: a3 :: z_i z :: ls) st w Q ↔ z_G d u 300 542 (a0 :: a1 :: a2 :: a3 :: z_i z :: ls) (z_i z :: st) w Q := z_gun ((zF300_6 540 (by decide)).trans rfl)
set_option maxRecDepth 100000 in
theorem g300_542 {d : Nat} {u : Nat × Nat} {ls st : List z_V} {w : z_W} {Q : z_P} : z_G d u 300 542 ls st w Q ↔ z_G d u 300 543 ls (z_i (4) :: st) w Q := z_gun ((zF300_6 542 (by decide)).trans rfl)
set_option maxRecDepth 100000 in
theorem g300_543 {d : Nat} {u : Nat × Nat} {ls st : List z_V} {w : z_W} {Q : z_P} {x y : Int} : z_G d u 300 543 ls (z_i y :: z_i x :: st) w Q ↔ z_G d u 300 544 ls (z_i (z_add x y) :: st) w Q := z_gun ((zF300_6 543 (by decide)).trans rfl)
set_option maxRecDepth 100000 in
theorem g300_544 {d : Nat} {u : Nat × Nat} {ls st : List z_V} {w : z_W} {Q : z_P} {p : Nat} {i : Int} : z_G d u 300 544 ls (z_i i :: z_r p :: st) w Q ↔ ((z_k w p = 100 ∨ z_k w p = 103) ∧ 0 ≤ i ∧ i < z_len w p ∧ (z_rg (z_I w p i) → z_G d u 300 545 ls (z_i (z_I w p i) :: st) w Q)) := z_gun ((zF300_6 544 (by decide)).trans rfl)
set_option maxRecDepth 100000 in
theorem g300_545 {d : Nat} {u : Nat × Nat} {ls st : List z_V} {w : z_W} {Q : z_P} {p : Nat} {x0 x1 x2 x3 : Int} : z_G (d + 1) u 300 545 ls (z_i x3 :: z_i x2 :: z_i x1 :: z_i x0 :: z_r p :: st) w Q ↔ (z_k w p = 12 ∧ z_c8 st 8 = true ∧ z_G d (0, 0) 257 0 [z_r p, z_i x0, z_i x1, z_i x2, z_i x3] [] w (fun r w' => z_G (d + 1) u 300 548 ls (r.toList ++ st) w' Q)) := z_gcaV (d := d) (m := 300) (pc := 545) (m' := 257) (k := 5) (nL := 5) (nx := 548) (ci := 12) (p := p) (u := u) (ls := ls) (st := st) (w := w) (Q := Q) (vs := [z_r p, z_i x0, z_i x1, z_i x2, z_i x3]) ((zF300_6 545 (by decide)).trans rfl) rfl rfl
set_option maxRecDepth 100000 in
theorem g300_548 {d : Nat} {u : Nat × Nat} {ls st : List z_V} {w : z_W} {Q : z_P} {x : Int} : z_G d u 300 548 ls (z_i x :: st) w Q ↔ z_G d u 300 549 ls st w Q := z_gun ((zF300_6 548 (by decide)).trans rfl)
set_option maxRecDepth 100000 in
theorem g300_548r {d : Nat} {u : Nat × Nat} {ls st : List z_V} {w : z_W} {Q : z_P} {k : Nat} : z_G d u 300 548 ls (z_r k :: st) w Q ↔ z_G d u 300 549 ls st w Q := z_gun ((zF300_6 548 (by decide)).trans rfl)
set_option maxRecDepth 100000 in
theorem g300_549 {d : Nat} {u : Nat × Nat} {ls st : List z_V} {w : z_W} {Q : z_P} : z_G d u 300 549 ls st w Q ↔ z_G d u 300 1586 ls st w Q := z_gun ((zF300_6 549 (by decide)).trans rfl)
set_option maxRecDepth 100000 in
theorem g300_552 {d : Nat} {u : Nat × Nat} {ls st : List z_V} {w : z_W} {Q : z_P} {o : Option Nat} {a0 : z_V} : z_G d u 300 552 (a0 :: z_vr o :: ls) st w Q ↔ z_G d u 300 553 (a0 :: z_vr o :: ls) (z_vr o :: st) w Q := z_gun ((zF300_6 552 (by decide)).trans rfl)
set_option maxRecDepth 100000 in
theorem g300_552r {d : Nat} {u : Nat × Nat} {ls st : List z_V} {w : z_W} {Q : z_P} {k : Nat} {a0 : z_V} : z_G d u 300 552 (a0 :: z_r k :: ls) st w Q ↔ z_G d u 300 553 (a0 :: z_r k :: ls) (z_r k :: st) w Q := z_gun ((zF300_6 552 (by decide)).trans rfl)
set_option maxRecDepth 100000 in
theorem g300_553 {d : Nat} {u : Nat × Nat} {ls st : List z_V} {w : z_W} {Q : z_P} {o : Option Nat} : z_G d u 300 553 (z_vr o :: ls) st w Q ↔ z_G d u 300 554 (z_vr o :: ls) (z_vr o :: st) w Q := z_gun ((zF300_7 553 (by decide)).trans rfl)
set_option maxRecDepth 100000 in
theorem g300_553r {d : Nat} {u : Nat × Nat} {ls st : List z_V} {w : z_W} {Q : z_P} {k : Nat} : z_G d u 300 553 (z_r k :: ls) st w Q ↔ z_G d u 300 554 (z_r k :: ls) (z_r k :: st) w Q := z_gun ((zF300_7 553 (by decide)).trans rfl)
set_option maxRecDepth 100000 in
theorem g300_554 {d : Nat} {u : Nat × Nat} {ls st : List z_V} {w : z_W} {Q : z_P} {z : Int} {a0 a1 a2 a3 : z_V} : z_G d u 300 554 (a0 :: a1 :: a2 :: a3 :: z_i z :: ls) st w Q ↔ z_G d u 300 556 (a0 :: a1 :: a2 :: a3 :: z_i z :: ls) (z_i z :: st) w Q := z_gun ((zF300_7 554 (by decide)).trans rfl)
set_option maxRecDepth 100000 in
theorem g300_556 {d : Nat} {u : Nat × Nat} {ls st : List z_V} {w : z_W} {Q : z_P} : z_G d u 300 556 ls st w Q ↔ z_G d u 300 557 ls (z_i (1) :: st) w Q := z_gun ((zF300_7 556 (by decide)).trans rfl)
set_option maxRecDepth 100000 in
theorem g300_557 {d : Nat} {u : Nat × Nat} {ls st : List z_V} {w : z_W} {Q : z_P} {x y : Int} : z_G d u 300 557 ls (z_i y :: z_i x :: st) w Q ↔ z_G d u 300 558 ls (z_i (z_add x y) :: st) w Q := z_gun ((zF300_7 557 (by decide)).trans rfl)
set_option maxRecDepth 100000 in
theorem g300_558 {d : Nat} {u : Nat × Nat} {ls st : List z_V} {w : z_W} {Q : z_P} {p : Nat} {i : Int} : z_G d u 300 558 ls (z_i i :: z_r p :: st) w Q ↔ ((z_k w p = 100 ∨ z_k w p = 103) ∧ 0 ≤ i ∧ i < z_len w p ∧ (z_rg (z_I w p i) → z_G d u 300 559 ls (z_i (z_I w p i) :: st) w Q)) := z_gun ((zF300_7 558 (by decide)).trans rfl)
set_option maxRecDepth 100000 in
theorem g300_559 {d : Nat} {u : Nat × Nat} {ls st : List z_V} {w : z_W} {Q : z_P} {o : Option Nat} : z_G d u 300 559 (z_vr o :: ls) st w Q ↔ z_G d u 300 560 (z_vr o :: ls) (z_vr o :: st) w Q := z_gun ((zF300_7 559 (by decide)).trans rfl)
set_option maxRecDepth 100000 in
theorem g300_559r {d : Nat} {u : Nat × Nat} {ls st : List z_V} {w : z_W} {Q : z_P} {k : Nat} : z_G d u 300 559 (z_r k :: ls) st w Q ↔ z_G d u 300 560 (z_r k :: ls) (z_r k :: st) w Q := z_gun ((zF300_7 559 (by decide)).trans rfl)
set_option maxRecDepth 100000 in
theorem g300_560 {d : Nat} {u : Nat × Nat} {ls st : List z_V} {w : z_W} {Q : z_P} {z : Int} {a0 a1 a2 a3 : z_V} : z_G d u 300 560 (a0 :: a1 :: a2 :: a3 :: z_i z :: ls) st w Q ↔ z_G d u 300 562 (a0 :: a1 :: a2 :: a3 :: z_i z :: ls) (z_i z :: st) w Q := z_gun ((zF300_7 560 (by decide)).trans rfl)
set_option maxRecDepth 100000 in
theorem g300_562 {d : Nat} {u : Nat × Nat} {ls st : List z_V} {w : z_W} {Q : z_P} : z_G d u 300 562 ls st w Q ↔ z_G d u 300 563 ls (z_i (2) :: st) w Q := z_gun ((zF300_7 562 (by decide)).trans rfl)
set_option maxRecDepth 100000 in
theorem g300_563 {d : Nat} {u : Nat × Nat} {ls st : List z_V} {w : z_W} {Q : z_P} {x y : Int} : z_G d u 300 563 ls (z_i y :: z_i x :: st) w Q ↔ z_G d u 300 564 ls (z_i (z_add x y) :: st) w Q := z_gun ((zF300_7 563 (by decide)).trans rfl)
set_option maxRecDepth 100000 in
theorem g300_564 {d : Nat} {u : Nat × Nat} {ls st : List z_V} {w : z_W} {Q : z_P} {p : Nat} {i : Int} : z_G d u 300 564 ls (z_i i :: z_r p :: st) w Q ↔ ((z_k w p = 100 ∨ z_k w p = 103) ∧ 0 ≤ i ∧ i < z_len w p ∧ (z_rg (z_I w p i) → z_G d u 300 565 ls (z_i (z_I w p i) :: st) w Q)) := z_gun ((zF300_7 564 (by decide)).trans rfl)
set_option maxRecDepth 100000 in
theorem g300_565 {d : Nat} {u : Nat × Nat} {ls st : List z_V} {w : z_W} {Q : z_P} {o : Option Nat} : z_G d u 300 565 (z_vr o :: ls) st w Q ↔ z_G d u 300 566 (z_vr o :: ls) (z_vr o :: st) w Q := z_gun ((zF300_7 565 (by decide)).trans rfl)
