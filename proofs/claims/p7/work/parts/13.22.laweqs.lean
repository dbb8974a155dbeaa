set_option maxRecDepth 100000 in
theorem g300_995 {d : Nat} {u : Nat × Nat} {ls st : List z_V} {w : z_W} {Q : z_P} {o : Option Nat} : z_G d u 300 995 (z_vr o :: ls) st w Q ↔ z_G d u 300 996 (z_vr o :: ls) (z_vr o :: st) w Q := z_gun ((zF300_15 995 (by decide)).trans rfl)
set_option maxRecDepth 100000 in
theorem g300_995r {d : Nat} {u : Nat × Nat} {ls st : List z_V} {w : z_W} {Q : z_P} {k : Nat} : z_G d u 300 995 (z_r k :: ls) st w Q ↔ z_G d u 300 996 (z_r k :: ls) (z_r k :: st) w Q := z_gun ((zF300_15 995 (by decide)).trans rfl)
set_option maxRecDepth 100000 in
theorem g300_996 {d : Nat} {u : Nat × Nat} {ls st : List z_V} {w : z_W} {Q : z_P} {z : Int} {a0 a1 a2 a3 : z_V} : z_G d u 300 996 (a0 :: a1 :: a2 :: a3 :: z_i z :: ls) st w Q ↔ z_G d u 300 998 (a0 :: a1 :: a2 :: a3 :: z_i z :: ls) (z_i z :: st) w Q := z_gun ((zF300_15 996 (by decide)).trans rfl)
set_option maxRecDepth 100000 in
theorem g300_998 {d : Nat} {u : Nat × Nat} {ls st : List z_V} {w : z_W} {Q : z_P} : z_G d u 300 998 ls st w Q ↔ z_G d u 300 999 ls (z_i (1) :: st) w Q := z_gun ((zF300_15 998 (by decide)).trans rfl)
set_option maxRecDepth 100000 in
theorem g300_999 {d : Nat} {u : Nat × Nat} {ls st : List z_V} {w : z_W} {Q : z_P} {x y : Int} : z_G d u 300 999 ls (z_i y :: z_i x :: st) w Q ↔ z_G d u 300 1000 ls (z_i (z_add x y) :: st) w Q := z_gun ((zF300_15 999 (by decide)).trans rfl)
set_option maxRecDepth 100000 in
theorem g300_1000 {d : Nat} {u : Nat × Nat} {ls st : List z_V} {w : z_W} {Q : z_P} {p : Nat} {i : Int} : z_G d u 300 1000 ls (z_i i :: z_r p :: st) w Q ↔ ((z_k w p = 100 ∨ z_k w p = 103) ∧ 0 ≤ i ∧ i < z_len w p ∧ (z_rg (z_I w p i) → z_G d u 300 1001 ls (z_i (z_I w p i) :: st) w Q)) := z_gun ((zF300_15 1000 (by decide)).trans rfl)
set_option maxRecDepth 100000 in
theorem g300_1001 {d : Nat} {u : Nat × Nat} {ls st : List z_V} {w : z_W} {Q : z_P} {o : Option Nat} : z_G d u 300 1001 (z_vr o :: ls) st w Q ↔ z_G d u 300 1002 (z_vr o :: ls) (z_vr o :: st) w Q := z_gun ((zF300_15 1001 (by decide)).trans rfl)
set_option maxRecDepth 100000 in
theorem g300_1001r {d : Nat} {u : Nat × Nat} {ls st : List z_V} {w : z_W} {Q : z_P} {k : Nat} : z_G d u 300 1001 (z_r k :: ls) st w Q ↔ z_G d u 300 1002 (z_r k :: ls) (z_r k :: st) w Q := z_gun ((zF300_15 1001 (by decide)).trans rfl)
set_option maxRecDepth 100000 in
theorem g300_1002 {d : Nat} {u : Nat × Nat} {ls st : List z_V} {w : z_W} {Q : z_P} {z : Int} {a0 a1 a2 a3 : z_V} : z_G d u 300 1002 (a0 :: a1 :: a2 :: a3 :: z_i z :: ls) st w Q ↔ z_G d u 300 1004 (a0 :: a1 :: a2 :: a3 :: z_i z :: ls) (z_i z :: st) w Q := z_gun ((zF300_15 1002 (by decide)).trans rfl)
set_option maxRecDepth 100000 in
theorem g300_1004 {d : Nat} {u : Nat × Nat} {ls st : List z_V} {w : z_W} {Q : z_P} : z_G d u 300 1004 ls st w Q ↔ z_G d u 300 1005 ls (z_i (2) :: st) w Q := z_gun ((zF300_15 1004 (by decide)).trans rfl)
set_option maxRecDepth 100000 in
theorem g300_1005 {d : Nat} {u : Nat × Nat} {ls st : List z_V} {w : z_W} {Q : z_P} {x y : Int} : z_G d u 300 1005 ls (z_i y :: z_i x :: st) w Q ↔ z_G d u 300 1006 ls (z_i (z_add x y) :: st) w Q := z_gun ((zF300_15 1005 (by decide)).trans rfl)
set_option maxRecDepth 100000 in
theorem g300_1006 {d : Nat} {u : Nat × Nat} {ls st : List z_V} {w : z_W} {Q : z_P} {p : Nat} {i : Int} : z_G d u 300 1006 ls (z_i i :: z_r p :: st) w Q ↔ ((z_k w p = 100 ∨ z_k w p = 103) ∧ 0 ≤ i ∧ i < z_len w p ∧ (z_rg (z_I w p i) → z_G d u 300 1007 ls (z_i (z_I w p i) :: st) w Q)) := z_gun ((zF300_15 1006 (by decide)).trans rfl)
set_option maxRecDepth 100000 in
theorem g300_1007 {d : Nat} {u : Nat × Nat} {ls st : List z_V} {w : z_W} {Q : z_P} {x : Int} : z_G d u 300 1007 ls (z_i x :: st) w Q ↔ z_G d u 300 1008 ls (z_l (z_i2l x) :: st) w Q := z_gun ((zF300_15 1007 (by decide)).trans rfl)
set_option maxRecDepth 100000 in
theorem g300_1008 {d : Nat} {u : Nat × Nat} {ls st : List z_V} {w : z_W} {Q : z_P} : z_G d u 300 1008 ls st w Q ↔ z_G d u 300 1010 ls (z_i (32) :: st) w Q := z_gun ((zF300_15 1008 (by decide)).trans rfl)
set_option maxRecDepth 100000 in
theorem g300_1010 {d : Nat} {u : Nat × Nat} {ls st : List z_V} {w : z_W} {Q : z_P} {x y : Int} : z_G d u 300 1010 ls (z_i y :: z_l x :: st) w Q ↔ z_G d u 300 1011 ls (z_l (z_lshl x y) :: st) w Q := z_gun ((zF300_15 1010 (by decide)).trans rfl)
set_option maxRecDepth 100000 in
theorem g300_1011 {d : Nat} {u : Nat × Nat} {ls st : List z_V} {w : z_W} {Q : z_P} {o : Option Nat} : z_G d u 300 1011 (z_vr o :: ls) st w Q ↔ z_G d u 300 1012 (z_vr o :: ls) (z_vr o :: st) w Q := z_gun ((zF300_15 1011 (by decide)).trans rfl)
set_option maxRecDepth 100000 in
theorem g300_1011r {d : Nat} {u : Nat × Nat} {ls st : List z_V} {w : z_W} {Q : z_P} {k : Nat} : z_G d u 300 1011 (z_r k :: ls) st w Q ↔ z_G d u 300 1012 (z_r k :: ls) (z_r k :: st) w Q := z_gun ((zF300_15 1011 (by decide)).trans rfl)
set_option maxRecDepth 100000 in
theorem g300_1012 {d : Nat} {u : Nat × Nat} {ls st : List z_V} {w : z_W} {Q : z_P} {z : Int} {a0 a1 a2 a3 : z_V} : z_G d u 300 1012 (a0 :: a1 :: a2 :: a3 :: z_i z :: ls) st w Q ↔ z_G d u 300 1014 (a0 :: a1 :: a2 :: a3 :: z_i z :: ls) (z_i z :: st) w Q := z_gun ((zF300_15 1012 (by decide)).trans rfl)
set_option maxRecDepth 100000 in
theorem g300_1014 {d : Nat} {u : Nat × Nat} {ls st : List z_V} {w : z_W} {Q : z_P} : z_G d u 300 1014 ls st w Q ↔ z_G d u 300 1015 ls (z_i (3) :: st) w Q := z_gun ((zF300_15 1014 (by decide)).trans rfl)
set_option maxRecDepth 100000 in
theorem g300_1015 {d : Nat} {u : Nat × Nat} {ls st : List z_V} {w : z_W} {Q : z_P} {x y : Int} : z_G d u 300 1015 ls (z_i y :: z_i x :: st) w Q ↔ z_G d u 300 1016 ls (z_i (z_add x y) :: st) w Q := z_gun ((zF300_15 1015 (by decide)).trans rfl)
set_option maxRecDepth 100000 in
theorem g300_1016 {d : Nat} {u : Nat × Nat} {ls st : List z_V} {w : z_W} {Q : z_P} {p : Nat} {i : Int} : z_G d u 300 1016 ls (z_i i :: z_r p :: st) w Q ↔ ((z_k w p = 100 ∨ z_k w p = 103) ∧ 0 ≤ i ∧ i < z_len w p ∧ (z_rg (z_I w p i) → z_G d u 300 1017 ls (z_i (z_I w p i) :: st) w Q)) := z_gun ((zF300_15 1016 (by decide)).trans rfl)
set_option maxRecDepth 100000 in
theorem g300_1017 {d : Nat} {u : Nat × Nat} {ls st : List z_V} {w : z_W} {Q : z_P} {x : Int} : z_G d u 300 1017 ls (z_i x :: st) w Q ↔ z_G d u 300 1018 ls (z_l (z_i2l x) :: st) w Q := z_gun ((zF300_15 1017 (by decide)).trans rfl)
set_option maxRecDepth 100000 in
theorem g300_1018 {d : Nat} {u : Nat × Nat} {ls st : List z_V} {w : z_W} {Q : z_P} : z_G d u 300 1018 ls st w Q ↔ z_G d u 300 1021 ls (z_l (4294967295) :: st) w Q := z_gun ((zF300_15 1018 (by decide)).trans rfl)
set_option maxRecDepth 100000 in
theorem g300_1021 {d : Nat} {u : Nat × Nat} {ls st : List z_V} {w : z_W} {Q : z_P} {x y : Int} : z_G d u 300 1021 ls (z_l y :: z_l x :: st) w Q ↔ z_G d u 300 1022 ls (z_l (z_land x y) :: st) w Q := z_gun ((zF300_15 1021 (by decide)).trans rfl)
set_option maxRecDepth 100000 in
theorem g300_1022 {d : Nat} {u : Nat × Nat} {ls st : List z_V} {w : z_W} {Q : z_P} {x y : Int} : z_G d u 300 1022 ls (z_l y :: z_l x :: st) w Q ↔ z_G d u 300 1023 ls (z_l (z_lor x y) :: st) w Q := z_gun ((zF300_15 1022 (by decide)).trans rfl)
set_option maxRecDepth 100000 in
theorem g300_1023 {d : Nat} {u : Nat × Nat} {ls st : List z_V} {w : z_W} {Q : z_P} {p : Nat} {x0 x1 : Int} : z_G (d + 1) u 300 1023 ls (z_l x1 :: z_i x0 :: z_r p :: st) w Q ↔ (z_k w p = 12 ∧ z_c8 st 8 = true ∧ z_G d (0, 0) 246 0 [z_r p, z_i x0, z_l x1, z_x, z_x] [] w (fun r w' => z_G (d + 1) u 300 1026 ls (r.toList ++ st) w' Q)) := z_gcaV (d := d) (m := 300) (pc := 1023) (m' := 246) (k := 3) (nL := 5) (nx := 1026) (ci := 12) (p := p) (u := u) (ls := ls) (st := st) (w := w) (Q := Q) (vs := [z_r p, z_i x0, z_l x1]) ((zF300_15 1023 (by decide)).trans rfl) rfl rfl
set_option maxRecDepth 100000 in
theorem g300_1026 {d : Nat} {u : Nat × Nat} {ls st : List z_V} {w : z_W} {Q : z_P} {x : Int} : z_G d u 300 1026 ls (z_i x :: st) w Q ↔ z_G d u 300 1027 ls st w Q := z_gun ((zF300_15 1026 (by decide)).trans rfl)
set_option maxRecDepth 100000 in
theorem g300_1026r {d : Nat} {u : Nat × Nat} {ls st : List z_V} {w : z_W} {Q : z_P} {k : Nat} : z_G d u 300 1026 ls (z_r k :: st) w Q ↔ z_G d u 300 1027 ls st w Q := z_gun ((zF300_15 1026 (by decide)).trans rfl)
set_option maxRecDepth 100000 in
theorem g300_1027 {d : Nat} {u : Nat × Nat} {ls st : List z_V} {w : z_W} {Q : z_P} : z_G d u 300 1027 ls st w Q ↔ z_G d u 300 1614 ls st w Q := z_gun ((zF300_15 1027 (by decide)).trans rfl)
set_option maxRecDepth 100000 in
theorem g300_1030 {d : Nat} {u : Nat × Nat} {ls st : List z_V} {w : z_W} {Q : z_P} {o : Option Nat} {a0 : z_V} : z_G d u 300 1030 (a0 :: z_vr o :: ls) st w Q ↔ z_G d u 300 1031 (a0 :: z_vr o :: ls) (z_vr o :: st) w Q := z_gun ((zF300_15 1030 (by decide)).trans rfl)
set_option maxRecDepth 100000 in
theorem g300_1030r {d : Nat} {u : Nat × Nat} {ls st : List z_V} {w : z_W} {Q : z_P} {k : Nat} {a0 : z_V} : z_G d u 300 1030 (a0 :: z_r k :: ls) st w Q ↔ z_G d u 300 1031 (a0 :: z_r k :: ls) (z_r k :: st) w Q := z_gun ((zF300_15 1030 (by decide)).trans rfl)
set_option maxRecDepth 100000 in
theorem g300_1031 {d : Nat} {u : Nat × Nat} {ls st : List z_V} {w : z_W} {Q : z_P} {o : Option Nat} : z_G d u 300 1031 (z_vr o :: ls) st w Q ↔ z_G d u 300 1032 (z_vr o :: ls) (z_vr o :: st) w Q := z_gun ((zF300_15 1031 (by decide)).trans rfl)
set_option maxRecDepth 100000 in
theorem g300_1031r {d : Nat} {u : Nat × Nat} {ls st : List z_V} {w : z_W} {Q : z_P} {k : Nat} : z_G d u 300 1031 (z_r k :: ls) st w Q ↔ z_G d u 300 1032 (z_r k :: ls) (z_r k :: st) w Q := z_gun ((zF300_15 1031 (by decide)).trans rfl)
set_option maxRecDepth 100000 in
theorem g300_1032 {d : Nat} {u : Nat × Nat} {ls st : List z_V} {w : z_W} {Q : z_P} {z : Int} {a0 a1 a2 a3 : z_V} : z_G d u 300 1032 (a0 :: a1 :: a2 :: a3 :: z_i z :: ls) st w Q ↔ z_G d u 300 1034 (a0 :: a1 :: a2 :: a3 :: z_i z :: ls) (z_i z :: st) w Q := z_gun ((zF300_15 1032 (by decide)).trans rfl)
set_option maxRecDepth 100000 in
theorem g300_1034 {d : Nat} {u : Nat × Nat} {ls st : List z_V} {w : z_W} {Q : z_P} : z_G d u 300 1034 ls st w Q ↔ z_G d u 300 1035 ls (z_i (1) :: st) w Q := z_gun ((zF300_15 1034 (by decide)).trans rfl)
set_option maxRecDepth 100000 in
theorem g300_1035 {d : Nat} {u : Nat × Nat} {ls st : List z_V} {w : z_W} {Q : z_P} {x y : Int} : z_G d u 300 1035 ls (z_i y :: z_i x :: st) w Q ↔ z_G d u 300 1036 ls (z_i (z_add x y) :: st) w Q := z_gun ((zF300_15 1035 (by decide)).trans rfl)
set_option maxRecDepth 100000 in
theorem g300_1036 {d : Nat} {u : Nat × Nat} {ls st : List z_V} {w : z_W} {Q : z_P} {p : Nat} {i : Int} : z_G d u 300 1036 ls (z_i i :: z_r p :: st) w Q ↔ ((z_k w p = 100 ∨ z_k w p = 103) ∧ 0 ≤ i ∧ i < z_len w p ∧ (z_rg (z_I w p i) → z_G d u 300 1037 ls (z_i (z_I w p i) :: st) w Q)) := z_gun ((zF300_15 1036 (by decide)).trans rfl)
set_option maxRecDepth 100000 in
theorem g300_1037 {d : Nat} {u : Nat × Nat} {ls st : List z_V} {w : z_W} {Q : z_P} {p : Nat} {x0 : Int} : z_G (d + 1) u 300 1037 ls (z_i x0 :: z_r p :: st) w Q ↔ (z_k w p = 11 ∧ z_c8 st 8 = true ∧ z_G d (0, 0) 146 0 [z_r p, z_i x0] [] w (fun r w' => z_G (d + 1) u 300 1040 ls (r.toList ++ st) w' Q)) := z_gcaV (d := d) (m := 300) (pc := 1037) (m' := 146) (k := 2) (nL := 2) (nx := 1040) (ci := 11) (p := p) (u := u) (ls := ls) (st := st) (w := w) (Q := Q) (vs := [z_r p, z_i x0]) ((zF300_15 1037 (by decide)).trans rfl) rfl rfl
set_option maxRecDepth 100000 in
theorem g300_1040 {d : Nat} {u : Nat × Nat} {ls st : List z_V} {w : z_W} {Q : z_P} {x : Int} : z_G d u 300 1040 ls (z_i x :: st) w Q ↔ z_G d u 300 1041 ls st w Q := z_gun ((zF300_15 1040 (by decide)).trans rfl)
set_option maxRecDepth 100000 in
theorem g300_1040r {d : Nat} {u : Nat × Nat} {ls st : List z_V} {w : z_W} {Q : z_P} {k : Nat} : z_G d u 300 1040 ls (z_r k :: st) w Q ↔ z_G d u 300 1041 ls st w Q := z_gun ((zF300_15 1040 (by decide)).trans rfl)
set_option maxRecDepth 100000 in
theorem g300_1041 {d : Nat} {u : Nat × Nat} {ls st : List z_V} {w : z_W} {Q : z_P} {o : Option Nat} {a0 a1 : z_V} : z_G d u 300 1041 (a0 :: a1 :: z_vr o :: ls) st w Q ↔ z_G d u 300 1042 (a0 :: a1 :: z_vr o :: ls) (z_vr o :: st) w Q := z_gun ((zF300_15 1041 (by decide)).trans rfl)
set_option maxRecDepth 100000 in
theorem g300_1041r {d : Nat} {u : Nat × Nat} {ls st : List z_V} {w : z_W} {Q : z_P} {k : Nat} {a0 a1 : z_V} : z_G d u 300 1041 (a0 :: a1 :: z_r k :: ls) st w Q ↔ z_G d u 300 1042 (a0 :: a1 :: z_r k :: ls) (z_r k :: st) w Q := z_gun ((zF300_15 1041 (by decide)).trans rfl)
set_option maxRecDepth 100000 in
theorem g300_1042 {d : Nat} {u : Nat × Nat} {ls st : List z_V} {w : z_W} {Q : z_P} {o : Option Nat} : z_G d u 300 1042 (z_vr o :: ls) st w Q ↔ z_G d u 300 1043 (z_vr o :: ls) (z_vr o :: st) w Q := z_gun ((zF300_15 1042 (by decide)).trans rfl)
set_option maxRecDepth 100000 in
theorem g300_1042r {d : Nat} {u : Nat × Nat} {ls st : List z_V} {w : z_W} {Q : z_P} {k : Nat} : z_G d u 300 1042 (z_r k :: ls) st w Q ↔ z_G d u 300 1043 (z_r k :: ls) (z_r k :: st) w Q := z_gun ((zF300_15 1042 (by decide)).trans rfl)
set_option maxRecDepth 100000 in
theorem g300_1043 {d : Nat} {u : Nat × Nat} {ls st : List z_V} {w : z_W} {Q : z_P} {z : Int} {a0 a1 a2 a3 : z_V} : z_G d u 300 1043 (a0 :: a1 :: a2 :: a3 :: z_i z :: ls) st w Q ↔ z_G d u 300 1045 (a0 :: a1 :: a2 :: a3 :: z_i z :: ls) (z_i z :: st) w Q := z_gun ((zF300_16 1043 (by decide)).trans rfl)
set_option maxRecDepth 100000 in
theorem g300_1045 {d : Nat} {u : Nat × Nat} {ls st : List z_V} {w : z_W} {Q : z_P} : z_G d u 300 1045 ls st w Q ↔ z_G d u 300 1046 ls (z_i (1) :: st) w Q := z_gun ((zF300_16 1045 (by decide)).trans rfl)
set_option maxRecDepth 100000 in
theorem g300_1046 {d : Nat} {u : Nat × Nat} {ls st : List z_V} {w : z_W} {Q : z_P} {x y : Int} : z_G d u 300 1046 ls (z_i y :: z_i x :: st) w Q ↔ z_G d u 300 1047 ls (z_i (z_add x y) :: st) w Q := z_gun ((zF300_16 1046 (by decide)).trans rfl)
set_option maxRecDepth 100000 in
theorem g300_1047 {d : Nat} {u : Nat × Nat} {ls st : List z_V} {w : z_W} {Q : z_P} {p : Nat} {i : Int} : z_G d u 300 1047 ls (z_i i :: z_r p :: st) w Q ↔ ((z_k w p = 100 ∨ z_k w p = 103) ∧ 0 ≤ i ∧ i < z_len w p ∧ (z_rg (z_I w p i) → z_G d u 300 1048 ls (z_i (z_I w p i) :: st) w Q)) := z_gun ((zF300_16 1047 (by decide)).trans rfl)
set_option maxRecDepth 100000 in
theorem g300_1048 {d : Nat} {u : Nat × Nat} {ls st : List z_V} {w : z_W} {Q : z_P} {p : Nat} {x0 : Int} : z_G (d + 1) u 300 1048 ls (z_i x0 :: z_r p :: st) w Q ↔ (z_k w p = 12 ∧ z_c8 st 8 = true ∧ z_G d (0, 0) 247 0 [z_r p, z_i x0] [] w (fun r w' => z_G (d + 1) u 300 1051 ls (r.toList ++ st) w' Q)) := z_gcaV (d := d) (m := 300) (pc := 1048) (m' := 247) (k := 2) (nL := 2) (nx := 1051) (ci := 12) (p := p) (u := u) (ls := ls) (st := st) (w := w) (Q := Q) (vs := [z_r p, z_i x0]) ((zF300_16 1048 (by decide)).trans rfl) rfl rfl
set_option maxRecDepth 100000 in
theorem g300_1051 {d : Nat} {u : Nat × Nat} {ls st : List z_V} {w : z_W} {Q : z_P} {x : Int} : z_G d u 300 1051 ls (z_i x :: st) w Q ↔ z_G d u 300 1052 ls st w Q := z_gun ((zF300_16 1051 (by decide)).trans rfl)
set_option maxRecDepth 100000 in
theorem g300_1051r {d : Nat} {u : Nat × Nat} {ls st : List z_V} {w : z_W} {Q : z_P} {k : Nat} : z_G d u 300 1051 ls (z_r k :: st) w Q ↔ z_G d u 300 1052 ls st w Q := z_gun ((zF300_16 1051 (by decide)).trans rfl)
set_option maxRecDepth 100000 in
theorem g300_1052 {d : Nat} {u : Nat × Nat} {ls st : List z_V} {w : z_W} {Q : z_P} : z_G d u 300 1052 ls st w Q ↔ z_G d u 300 1614 ls st w Q := z_gun ((zF300_16 1052 (by decide)).trans rfl)
set_option maxRecDepth 100000 in
theorem g300_1055 {d : Nat} {u : Nat × Nat} {ls st : List z_V} {w : z_W} {Q : z_P} {o : Option Nat} {a0 : z_V} : z_G d u 300 1055 (a0 :: z_vr o :: ls) st w Q ↔ z_G d u 300 1056 (a0 :: z_vr o :: ls) (z_vr o :: st) w Q := z_gun ((zF300_16 1055 (by decide)).trans rfl)
set_option maxRecDepth 100000 in
theorem g300_1055r {d : Nat} {u : Nat × Nat} {ls st : List z_V} {w : z_W} {Q : z_P} {k : Nat} {a0 : z_V} : z_G d u 300 1055 (a0 :: z_r k :: ls) st w Q ↔ z_G d u 300 1056 (a0 :: z_r k :: ls) (z_r k :: st) w Q := z_gun ((zF300_16 1055 (by decide)).trans rfl)
set_option maxRecDepth 100000 in
theorem g300_1056 {d : Nat} {u : Nat × Nat} {ls st : List z_V} {w : z_W} {Q : z_P} {p : Nat} : z_G (d + 1) u 300 1056 ls (z_r p :: st) w Q ↔ (z_k w p = 11 ∧ z_c8 st 8 = true ∧ z_G d (0, 0) 147 0 [z_r p] [] w (fun r w' => z_G (d + 1) u 300 1059 ls (r.toList ++ st) w' Q)) := z_gcaV (d := d) (m := 300) (pc := 1056) (m' := 147) (k := 1) (nL := 1) (nx := 1059) (ci := 11) (p := p) (u := u) (ls := ls) (st := st) (w := w) (Q := Q) (vs := [z_r p]) ((zF300_16 1056 (by decide)).trans rfl) rfl rfl
set_option maxRecDepth 100000 in
theorem g300_1059 {d : Nat} {u : Nat × Nat} {ls st : List z_V} {w : z_W} {Q : z_P} {x : Int} : z_G d u 300 1059 ls (z_i x :: st) w Q ↔ z_G d u 300 1060 ls st w Q := z_gun ((zF300_16 1059 (by decide)).trans rfl)
set_option maxRecDepth 100000 in
theorem g300_1059r {d : Nat} {u : Nat × Nat} {ls st : List z_V} {w : z_W} {Q : z_P} {k : Nat} : z_G d u 300 1059 ls (z_r k :: st) w Q ↔ z_G d u 300 1060 ls st w Q := z_gun ((zF300_16 1059 (by decide)).trans rfl)
set_option maxRecDepth 100000 in
theorem g300_1060 {d : Nat} {u : Nat × Nat} {ls st : List z_V} {w : z_W} {Q : z_P} {o : Option Nat} {a0 a1 : z_V} : z_G d u 300 1060 (a0 :: a1 :: z_vr o :: ls) st w Q ↔ z_G d u 300 1061 (a0 :: a1 :: z_vr o :: ls) (z_vr o :: st) w Q := z_gun ((zF300_16 1060 (by decide)).trans rfl)
set_option maxRecDepth 100000 in
theorem g300_1060r {d : Nat} {u : Nat × Nat} {ls st : List z_V} {w : z_W} {Q : z_P} {k : Nat} {a0 a1 : z_V} : z_G d u 300 1060 (a0 :: a1 :: z_r k :: ls) st w Q ↔ z_G d u 300 1061 (a0 :: a1 :: z_r k :: ls) (z_r k :: st) w Q := z_gun ((zF300_16 1060 (by decide)).trans rfl)
set_option maxRecDepth 100000 in
theorem g300_1061 {d : Nat} {u : Nat × Nat} {ls st : List z_V} {w : z_W} {Q : z_P} {p : Nat} : z_G (d + 1) u 300 1061 ls (z_r p :: st) w Q ↔ (z_k w p = 12 ∧ z_c8 st 8 = true ∧ z_G d (0, 0) 248 0 [z_r p, z_x] [] w (fun r w' => z_G (d + 1) u 300 1064 ls (r.toList ++ st) w' Q)) := z_gcaV (d := d) (m := 300) (pc := 1061) (m' := 248) (k := 1) (nL := 2) (nx := 1064) (ci := 12) (p := p) (u := u) (ls := ls) (st := st) (w := w) (Q := Q) (vs := [z_r p]) ((zF300_16 1061 (by decide)).trans rfl) rfl rfl
set_option maxRecDepth 100000 in
theorem g300_1064 {d : Nat} {u : Nat × Nat} {ls st : List z_V} {w : z_W} {Q : z_P} {x : Int} : z_G d u 300 1064 ls (z_i x :: st) w Q ↔ z_G d u 300 1065 ls st w Q := z_gun ((zF300_16 1064 (by decide)).trans rfl)
set_option maxRecDepth 100000 in
theorem g300_1064r {d : Nat} {u : Nat × Nat} {ls st : List z_V} {w : z_W} {Q : z_P} {k : Nat} : z_G d u 300 1064 ls (z_r k :: st) w Q ↔ z_G d u 300 1065 ls st w Q := z_gun ((zF300_16 1064 (by decide)).trans rfl)
set_option maxRecDepth 100000 in
theorem g300_1065 {d : Nat} {u : Nat × Nat} {ls st : List z_V} {w : z_W} {Q : z_P} : z_G d u 300 1065 ls st w Q ↔ z_G d u 300 1614 ls st w Q := z_gun ((zF300_16 1065 (by decide)).trans rfl)
set_option maxRecDepth 100000 in
theorem g300_1068 {d : Nat} {u : Nat × Nat} {ls st : List z_V} {w : z_W} {Q : z_P} {o : Option Nat} {a0 : z_V} : z_G d u 300 1068 (a0 :: z_vr o :: ls) st w Q ↔ z_G d u 300 1069 (a0 :: z_vr o :: ls) (z_vr o :: st) w Q := z_gun ((zF300_16 1068 (by decide)).trans rfl)
set_option maxRecDepth 100000 in
theorem g300_1068r {d : Nat} {u : Nat × Nat} {ls st : List z_V} {w : z_W} {Q : z_P} {k : Nat} {a0 : z_V} : z_G d u 300 1068 (a0 :: z_r k :: ls) st w Q ↔ z_G d u 300 1069 (a0 :: z_r k :: ls) (z_r k :: st) w Q := z_gun ((zF300_16 1068 (by decide)).trans rfl)
set_option maxRecDepth 100000 in
theorem g300_1069 {d : Nat} {u : Nat × Nat} {ls st : List z_V} {w : z_W} {Q : z_P} {o : Option Nat} : z_G d u 300 1069 (z_vr o :: ls) st w Q ↔ z_G d u 300 1070 (z_vr o :: ls) (z_vr o :: st) w Q := z_gun ((zF300_16 1069 (by decide)).trans rfl)
set_option maxRecDepth 100000 in
theorem g300_1069r {d : Nat} {u : Nat × Nat} {ls st : List z_V} {w : z_W} {Q : z_P} {k : Nat} : z_G d u 300 1069 (z_r k :: ls) st w Q ↔ z_G d u 300 1070 (z_r k :: ls) (z_r k :: st) w Q := z_gun ((zF300_16 1069 (by decide)).trans rfl)
set_option maxRecDepth 100000 in
theorem g300_1070 {d : Nat} {u : Nat × Nat} {ls st : List z_V} {w : z_W} {Q : z_P} {z : Int} {a0 a1 a2 a3 : z_V} : z_G d u 300 1070 (a0 :: a1 :: a2 :: a3 :: z_i z :: ls) st w Q ↔ z_G d u 300 1072 (a0 :: a1 :: a2 :: a3 :: z_i z :: ls) (z_i z :: st) w Q := z_gun ((zF300_16 1070 (by decide)).trans rfl)
set_option maxRecDepth 100000 in
theorem g300_1072 {d : Nat} {u : Nat × Nat} {ls st : List z_V} {w : z_W} {Q : z_P} : z_G d u 300 1072 ls st w Q ↔ z_G d u 300 1073 ls (z_i (1) :: st) w Q := z_gun ((zF300_16 1072 (by decide)).trans rfl)
set_option maxRecDepth 100000 in
theorem g300_1073 {d : Nat} {u : Nat × Nat} {ls st : List z_V} {w : z_W} {Q : z_P} {x y : Int} : z_G d u 300 1073 ls (z_i y :: z_i x :: st) w Q ↔ z_G d u 300 1074 ls (z_i (z_add x y) :: st) w Q := z_gun ((zF300_16 1073 (by decide)).trans rfl)
set_option maxRecDepth 100000 in
theorem g300_1074 {d : Nat} {u : Nat × Nat} {ls st : List z_V} {w : z_W} {Q : z_P} {p : Nat} {i : Int} : z_G d u 300 1074 ls (z_i i :: z_r p :: st) w Q ↔ ((z_k w p = 100 ∨ z_k w p = 103) ∧ 0 ≤ i ∧ i < z_len w p ∧ (z_rg (z_I w p i) → z_G d u 300 1075 ls (z_i (z_I w p i) :: st) w Q)) := z_gun ((zF300_16 1074 (by decide)).trans rfl)
set_option maxRecDepth 100000 in
theorem g300_1075 {d : Nat} {u : Nat × Nat} {ls st : List z_V} {w : z_W} {Q : z_P} {o : Option Nat} : z_G d u 300 1075 (z_vr o :: ls) st w Q ↔ z_G d u 300 1076 (z_vr o :: ls) (z_vr o :: st) w Q := z_gun ((zF300_16 1075 (by decide)).trans rfl)
set_option maxRecDepth 100000 in
theorem g300_1075r {d : Nat} {u : Nat × Nat} {ls st : List z_V} {w : z_W} {Q : z_P} {k : Nat} : z_G d u 300 1075 (z_r k :: ls) st w Q ↔ z_G d u 300 1076 (z_r k :: ls) (z_r k :: st) w Q := z_gun ((zF300_16 1075 (by decide)).trans rfl)
set_option maxRecDepth 100000 in
theorem g300_1076 {d : Nat} {u : Nat × Nat} {ls st : List z_V} {w : z_W} {Q : z_P} {z : Int} {a0 a1 a2 a3 : z_V} : z_G d u 300 1076 (a0 :: a1 :: a2 :: a3 :: z_i z :: ls) st w Q ↔ z_G d u 300 1078 (a0 :: a1 :: a2 :: a3 :: z_i z :: ls) (z_i z :: st) w Q := z_gun ((zF300_16 1076 (by decide)).trans rfl)
set_option maxRecDepth 100000 in
theorem g300_1078 {d : Nat} {u : Nat × Nat} {ls st : List z_V} {w : z_W} {Q : z_P} : z_G d u 300 1078 ls st w Q ↔ z_G d u 300 1079 ls (z_i (2) :: st) w Q := z_gun ((zF300_16 1078 (by decide)).trans rfl)
set_option maxRecDepth 100000 in
theorem g300_1079 {d : Nat} {u : Nat × Nat} {ls st : List z_V} {w : z_W} {Q : z_P} {x y : Int} : z_G d u 300 1079 ls (z_i y :: z_i x :: st) w Q ↔ z_G d u 300 1080 ls (z_i (z_add x y) :: st) w Q := z_gun ((zF300_16 1079 (by decide)).trans rfl)
set_option maxRecDepth 100000 in
theorem g300_1080 {d : Nat} {u : Nat × Nat} {ls st : List z_V} {w : z_W} {Q : z_P} {p : Nat} {i : Int} : z_G d u 300 1080 ls (z_i i :: z_r p :: st) w Q ↔ ((z_k w p = 100 ∨ z_k w p = 103) ∧ 0 ≤ i ∧ i < z_len w p ∧ (z_rg (z_I w p i) → z_G d u 300 1081 ls (z_i (z_I w p i) :: st) w Q)) := z_gun ((zF300_16 1080 (by decide)).trans rfl)
set_option maxRecDepth 100000 in
theorem g300_1081 {d : Nat} {u : Nat × Nat} {ls st : List z_V} {w : z_W} {Q : z_P} {p : Nat} {x0 x1 : Int} : z_G (d + 1) u 300 1081 ls (z_i x1 :: z_i x0 :: z_r p :: st) w Q ↔ (z_k w p = 11 ∧ z_c8 st 8 = true ∧ z_G d (0, 0) 148 0 [z_r p, z_i x0, z_i x1] [] w (fun r w' => z_G (d + 1) u 300 1084 ls (r.toList ++ st) w' Q)) := z_gcaV (d := d) (m := 300) (pc := 1081) (m' := 148) (k := 3) (nL := 3) (nx := 1084) (ci := 11) (p := p) (u := u) (ls := ls) (st := st) (w := w) (Q := Q) (vs := [z_r p, z_i x0, z_i x1]) ((zF300_16 1081 (by decide)).trans rfl) rfl rfl
set_option maxRecDepth 100000 in
theorem g300_1084 {d : Nat} {u : Nat × Nat} {ls st : List z_V} {w : z_W} {Q : z_P} {x : Int} : z_G d u 300 1084 ls (z_i x :: st) w Q ↔ z_G d u 300 1085 ls st w Q := z_gun ((zF300_16 1084 (by decide)).trans rfl)
set_option maxRecDepth 100000 in
theorem g300_1084r {d : Nat} {u : Nat × Nat} {ls st : List z_V} {w : z_W} {Q : z_P} {k : Nat} : z_G d u 300 1084 ls (z_r k :: st) w Q ↔ z_G d u 300 1085 ls st w Q := z_gun ((zF300_16 1084 (by decide)).trans rfl)
set_option maxRecDepth 100000 in
theorem g300_1085 {d : Nat} {u : Nat × Nat} {ls st : List z_V} {w : z_W} {Q : z_P} {o : Option Nat} {a0 a1 : z_V} : z_G d u 300 1085 (a0 :: a1 :: z_vr o :: ls) st w Q ↔ z_G d u 300 1086 (a0 :: a1 :: z_vr o :: ls) (z_vr o :: st) w Q := z_gun ((zF300_16 1085 (by decide)).trans rfl)
set_option maxRecDepth 100000 in
theorem g300_1085r {d : Nat} {u : Nat × Nat} {ls st : List z_V} {w : z_W} {Q : z_P} {k : Nat} {a0 a1 : z_V} : z_G d u 300 1085 (a0 :: a1 :: z_r k :: ls) st w Q ↔ z_G d u 300 1086 (a0 :: a1 :: z_r k :: ls) (z_r k :: st) w Q := z_gun ((zF300_16 1085 (by decide)).trans rfl)
set_option maxRecDepth 100000 in
theorem g300_1086 {d : Nat} {u : Nat × Nat} {ls st : List z_V} {w : z_W} {Q : z_P} {o : Option Nat} : z_G d u 300 1086 (z_vr o :: ls) st w Q ↔ z_G d u 300 1087 (z_vr o :: ls) (z_vr o :: st) w Q := z_gun ((zF300_16 1086 (by decide)).trans rfl)
set_option maxRecDepth 100000 in
theorem g300_1086r {d : Nat} {u : Nat × Nat} {ls st : List z_V} {w : z_W} {Q : z_P} {k : Nat} : z_G d u 300 1086 (z_r k :: ls) st w Q ↔ z_G d u 300 1087 (z_r k :: ls) (z_r k :: st) w Q := z_gun ((zF300_16 1086 (by decide)).trans rfl)
set_option maxRecDepth 100000 in
theorem g300_1087 {d : Nat} {u : Nat × Nat} {ls st : List z_V} {w : z_W} {Q : z_P} {z : Int} {a0 a1 a2 a3 : z_V} : z_G d u 300 1087 (a0 :: a1 :: a2 :: a3 :: z_i z :: ls) st w Q ↔ z_G d u 300 1089 (a0 :: a1 :: a2 :: a3 :: z_i z :: ls) (z_i z :: st) w Q := z_gun ((zF300_16 1087 (by decide)).trans rfl)
set_option maxRecDepth 100000 in
theorem g300_1089 {d : Nat} {u : Nat × Nat} {ls st : List z_V} {w : z_W} {Q : z_P} : z_G d u 300 1089 ls st w Q ↔ z_G d u 300 1090 ls (z_i (1) :: st) w Q := z_gun ((zF300_16 1089 (by decide)).trans rfl)
set_option maxRecDepth 100000 in
theorem g300_1090 {d : Nat} {u : Nat × Nat} {ls st : List z_V} {w : z_W} {Q : z_P} {x y : Int} : z_G d u 300 1090 ls (z_i y :: z_i x :: st) w Q ↔ z_G d u 300 1091 ls (z_i (z_add x y) :: st) w Q := z_gun ((zF300_16 1090 (by decide)).trans rfl)
set_option maxRecDepth 100000 in
theorem g300_1091 {d : Nat} {u : Nat × Nat} {ls st : List z_V} {w : z_W} {Q : z_P} {p : Nat} {i : Int} : z_G d u 300 1091 ls (z_i i :: z_r p :: st) w Q ↔ ((z_k w p = 100 ∨ z_k w p = 103) ∧ 0 ≤ i ∧ i < z_len w p ∧ (z_rg (z_I w p i) → z_G d u 300 1092 ls (z_i (z_I w p i) :: st) w Q)) := z_gun ((zF300_16 1091 (by decide)).trans rfl)
set_option maxRecDepth 100000 in
theorem g300_1092 {d : Nat} {u : Nat × Nat} {ls st : List z_V} {w : z_W} {Q : z_P} {o : Option Nat} : z_G d u 300 1092 (z_vr o :: ls) st w Q ↔ z_G d u 300 1093 (z_vr o :: ls) (z_vr o :: st) w Q := z_gun ((zF300_16 1092 (by decide)).trans rfl)
set_option maxRecDepth 100000 in
theorem g300_1092r {d : Nat} {u : Nat × Nat} {ls st : List z_V} {w : z_W} {Q : z_P} {k : Nat} : z_G d u 300 1092 (z_r k :: ls) st w Q ↔ z_G d u 300 1093 (z_r k :: ls) (z_r k :: st) w Q := z_gun ((zF300_16 1092 (by decide)).trans rfl)
set_option maxRecDepth 100000 in
theorem g300_1093 {d : Nat} {u : Nat × Nat} {ls st : List z_V} {w : z_W} {Q : z_P} {z : Int} {a0 a1 a2 a3 : z_V} : z_G d u 300 1093 (a0 :: a1 :: a2 :: a3 :: z_i z :: ls) st w Q ↔ z_G d u 300 1095 (a0 :: a1 :: a2 :: a3 :: z_i z :: ls) (z_i z :: st) w Q := z_gun ((zF300_16 1093 (by decide)).trans rfl)
set_option maxRecDepth 100000 in
theorem g300_1095 {d : Nat} {u : Nat × Nat} {ls st : List z_V} {w : z_W} {Q : z_P} : z_G d u 300 1095 ls st w Q ↔ z_G d u 300 1096 ls (z_i (2) :: st) w Q := z_gun ((zF300_16 1095 (by decide)).trans rfl)
set_option maxRecDepth 100000 in
theorem g300_1096 {d : Nat} {u : Nat × Nat} {ls st : List z_V} {w : z_W} {Q : z_P} {x y : Int} : z_G d u 300 1096 ls (z_i y :: z_i x :: st) w Q ↔ z_G d u 300 1097 ls (z_i (z_add x y) :: st) w Q := z_gun ((zF300_16 1096 (by decide)).trans rfl)
set_option maxRecDepth 100000 in
theorem g300_1097 {d : Nat} {u : Nat × Nat} {ls st : List z_V} {w : z_W} {Q : z_P} {p : Nat} {i : Int} : z_G d u 300 1097 ls (z_i i :: z_r p :: st) w Q ↔ ((z_k w p = 100 ∨ z_k w p = 103) ∧ 0 ≤ i ∧ i < z_len w p ∧ (z_rg (z_I w p i) → z_G d u 300 1098 ls (z_i (z_I w p i) :: st) w Q)) := z_gun ((zF300_16 1097 (by decide)).trans rfl)
set_option maxRecDepth 100000 in
theorem g300_1098 {d : Nat} {u : Nat × Nat} {ls st : List z_V} {w : z_W} {Q : z_P} {p : Nat} {x0 x1 : Int} : z_G (d + 1) u 300 1098 ls (z_i x1 :: z_i x0 :: z_r p :: st) w Q ↔ (z_k w p = 12 ∧ z_c8 st 8 = true ∧ z_G d (0, 0) 249 0 [z_r p, z_i x0, z_i x1] [] w (fun r w' => z_G (d + 1) u 300 1101 ls (r.toList ++ st) w' Q)) := z_gcaV (d := d) (m := 300) (pc := 1098) (m' := 249) (k := 3) (nL := 3) (nx := 1101) (ci := 12) (p := p) (u := u) (ls := ls) (st := st) (w := w) (Q := Q) (vs := [z_r p, z_i x0, z_i x1]) ((zF300_16 1098 (by decide)).trans rfl) rfl rfl
set_option maxRecDepth 100000 in
theorem g300_1101 {d : Nat} {u : Nat × Nat} {ls st : List z_V} {w : z_W} {Q : z_P} {x : Int} : z_G d u 300 1101 ls (z_i x :: st) w Q ↔ z_G d u 300 1102 ls st w Q := z_gun ((zF300_16 1101 (by decide)).trans rfl)
set_option maxRecDepth 100000 in
theorem g300_1101r {d : Nat} {u : Nat × Nat} {ls st : List z_V} {w : z_W} {Q : z_P} {k : Nat} : z_G d u 300 1101 ls (z_r k :: st) w Q ↔ z_G d u 300 1102 ls st w Q := z_gun ((zF300_16 1101 (by decide)).trans rfl)
set_option maxRecDepth 100000 in
theorem g300_1102 {d : Nat} {u : Nat × Nat} {ls st : List z_V} {w : z_W} {Q : z_P} : z_G d u 300 1102 ls st w Q ↔ z_G d u 300 1614 ls st w Q := z_gun ((zF300_17 1102 (by decide)).trans rfl)
set_option maxRecDepth 100000 in
theorem g300_1105 {d : Nat} {u : Nat × Nat} {ls st : List z_V} {w : z_W} {Q : z_P} {o : Option Nat} {a0 : z_V} : z_G d u 300 1105 (a0 :: z_vr o :: ls) st w Q ↔ z_G d u 300 1106 (a0 :: z_vr o :: ls) (z_vr o :: st) w Q := z_gun ((zF300_17 1105 (by decide)).trans rfl)
set_option maxRecDepth 100000 in
theorem g300_1105r {d : Nat} {u : Nat × Nat} {ls st : List z_V} {w : z_W} {Q : z_P} {k : Nat} {a0 : z_V} : z_G d u 300 1105 (a0 :: z_r k :: ls) st w Q ↔ z_G d u 300 1106 (a0 :: z_r k :: ls) (z_r k :: st) w Q := z_gun ((zF300_17 1105 (by decide)).trans rfl)
set_option maxRecDepth 100000 in
theorem g300_1106 {d : Nat} {u : Nat × Nat} {ls st : List z_V} {w : z_W} {Q : z_P} {p : Nat} : z_G (d + 1) u 300 1106 ls (z_r p :: st) w Q ↔ (z_k w p = 11 ∧ z_c8 st 8 = true ∧ z_G d (0, 0) 149 0 [z_r p] [] w (fun r w' => z_G (d + 1) u 300 1109 ls (r.toList ++ st) w' Q)) := z_gcaV (d := d) (m := 300) (pc := 1106) (m' := 149) (k := 1) (nL := 1) (nx := 1109) (ci := 11) (p := p) (u := u) (ls := ls) (st := st) (w := w) (Q := Q) (vs := [z_r p]) ((zF300_17 1106 (by decide)).trans rfl) rfl rfl
set_option maxRecDepth 100000 in
theorem g300_1109 {d : Nat} {u : Nat × Nat} {ls st : List z_V} {w : z_W} {Q : z_P} {x : Int} : z_G d u 300 1109 ls (z_i x :: st) w Q ↔ z_G d u 300 1110 ls st w Q := z_gun ((zF300_17 1109 (by decide)).trans rfl)
set_option maxRecDepth 100000 in
theorem g300_1109r {d : Nat} {u : Nat × Nat} {ls st : List z_V} {w : z_W} {Q : z_P} {k : Nat} : z_G d u 300 1109 ls (z_r k :: st) w Q ↔ z_G d u 300 1110 ls st w Q := z_gun ((zF300_17 1109 (by decide)).trans rfl)
set_option maxRecDepth 100000 in
theorem g300_1110 {d : Nat} {u : Nat × Nat} {ls st : List z_V} {w : z_W} {Q : z_P} {o : Option Nat} {a0 a1 : z_V} : z_G d u 300 1110 (a0 :: a1 :: z_vr o :: ls) st w Q ↔ z_G d u 300 1111 (a0 :: a1 :: z_vr o :: ls) (z_vr o :: st) w Q := z_gun ((zF300_17 1110 (by decide)).trans rfl)
set_option maxRecDepth 100000 in
theorem g300_1110r {d : Nat} {u : Nat × Nat} {ls st : List z_V} {w : z_W} {Q : z_P} {k : Nat} {a0 a1 : z_V} : z_G d u 300 1110 (a0 :: a1 :: z_r k :: ls) st w Q ↔ z_G d u 300 1111 (a0 :: a1 :: z_r k :: ls) (z_r k :: st) w Q := z_gun ((zF300_17 1110 (by decide)).trans rfl)
set_option maxRecDepth 100000 in
theorem g300_1111 {d : Nat} {u : Nat × Nat} {ls st : List z_V} {w : z_W} {Q : z_P} {p : Nat} : z_G (d + 1) u 300 1111 ls (z_r p :: st) w Q ↔ (z_k w p = 12 ∧ z_c8 st 8 = true ∧ z_G d (0, 0) 264 0 [z_r p, z_x, z_x] [] w (fun r w' => z_G (d + 1) u 300 1114 ls (r.toList ++ st) w' Q)) := z_gcaV (d := d) (m := 300) (pc := 1111) (m' := 264) (k := 1) (nL := 3) (nx := 1114) (ci := 12) (p := p) (u := u) (ls := ls) (st := st) (w := w) (Q := Q) (vs := [z_r p]) ((zF300_17 1111 (by decide)).trans rfl) rfl rfl
set_option maxRecDepth 100000 in
theorem g300_1114 {d : Nat} {u : Nat × Nat} {ls st : List z_V} {w : z_W} {Q : z_P} {x : Int} : z_G d u 300 1114 ls (z_i x :: st) w Q ↔ z_G d u 300 1115 ls st w Q := z_gun ((zF300_17 1114 (by decide)).trans rfl)
set_option maxRecDepth 100000 in
theorem g300_1114r {d : Nat} {u : Nat × Nat} {ls st : List z_V} {w : z_W} {Q : z_P} {k : Nat} : z_G d u 300 1114 ls (z_r k :: st) w Q ↔ z_G d u 300 1115 ls st w Q := z_gun ((zF300_17 1114 (by decide)).trans rfl)
set_option maxRecDepth 100000 in
theorem g300_1115 {d : Nat} {u : Nat × Nat} {ls st : List z_V} {w : z_W} {Q : z_P} : z_G d u 300 1115 ls st w Q ↔ z_G d u 300 1614 ls st w Q := z_gun ((zF300_17 1115 (by decide)).trans rfl)
set_option maxRecDepth 100000 in
theorem g300_1118 {d : Nat} {u : Nat × Nat} {ls st : List z_V} {w : z_W} {Q : z_P} {o : Option Nat} {a0 : z_V} : z_G d u 300 1118 (a0 :: z_vr o :: ls) st w Q ↔ z_G d u 300 1119 (a0 :: z_vr o :: ls) (z_vr o :: st) w Q := z_gun ((zF300_17 1118 (by decide)).trans rfl)
set_option maxRecDepth 100000 in
theorem g300_1118r {d : Nat} {u : Nat × Nat} {ls st : List z_V} {w : z_W} {Q : z_P} {k : Nat} {a0 : z_V} : z_G d u 300 1118 (a0 :: z_r k :: ls) st w Q ↔ z_G d u 300 1119 (a0 :: z_r k :: ls) (z_r k :: st) w Q := z_gun ((zF300_17 1118 (by decide)).trans rfl)
set_option maxRecDepth 100000 in
theorem g300_1119 {d : Nat} {u : Nat × Nat} {ls st : List z_V} {w : z_W} {Q : z_P} {o : Option Nat} : z_G d u 300 1119 (z_vr o :: ls) st w Q ↔ z_G d u 300 1120 (z_vr o :: ls) (z_vr o :: st) w Q := z_gun ((zF300_17 1119 (by decide)).trans rfl)
set_option maxRecDepth 100000 in
theorem g300_1119r {d : Nat} {u : Nat × Nat} {ls st : List z_V} {w : z_W} {Q : z_P} {k : Nat} : z_G d u 300 1119 (z_r k :: ls) st w Q ↔ z_G d u 300 1120 (z_r k :: ls) (z_r k :: st) w Q := z_gun ((zF300_17 1119 (by decide)).trans rfl)
set_option maxRecDepth 100000 in
theorem g300_1120 {d : Nat} {u : Nat × Nat} {ls st : List z_V} {w : z_W} {Q : z_P} {z : Int} {a0 a1 a2 a3 : z_V} : z_G d u 300 1120 (a0 :: a1 :: a2 :: a3 :: z_i z :: ls) st w Q ↔ z_G d u 300 1122 (a0 :: a1 :: a2 :: a3 :: z_i z :: ls) (z_i z :: st) w Q := z_gun ((zF300_17 1120 (by decide)).trans rfl)
set_option maxRecDepth 100000 in
theorem g300_1122 {d : Nat} {u : Nat × Nat} {ls st : List z_V} {w : z_W} {Q : z_P} : z_G d u 300 1122 ls st w Q ↔ z_G d u 300 1123 ls (z_i (1) :: st) w Q := z_gun ((zF300_17 1122 (by decide)).trans rfl)
set_option maxRecDepth 100000 in
theorem g300_1123 {d : Nat} {u : Nat × Nat} {ls st : List z_V} {w : z_W} {Q : z_P} {x y : Int} : z_G d u 300 1123 ls (z_i y :: z_i x :: st) w Q ↔ z_G d u 300 1124 ls (z_i (z_add x y) :: st) w Q := z_gun ((zF300_17 1123 (by decide)).trans rfl)
set_option maxRecDepth 100000 in
theorem g300_1124 {d : Nat} {u : Nat × Nat} {ls st : List z_V} {w : z_W} {Q : z_P} {p : Nat} {i : Int} : z_G d u 300 1124 ls (z_i i :: z_r p :: st) w Q ↔ ((z_k w p = 100 ∨ z_k w p = 103) ∧ 0 ≤ i ∧ i < z_len w p ∧ (z_rg (z_I w p i) → z_G d u 300 1125 ls (z_i (z_I w p i) :: st) w Q)) := z_gun ((zF300_17 1124 (by decide)).trans rfl)
set_option maxRecDepth 100000 in
theorem g300_1125 {d : Nat} {u : Nat × Nat} {ls st : List z_V} {w : z_W} {Q : z_P} {p : Nat} {x0 : Int} : z_G (d + 1) u 300 1125 ls (z_i x0 :: z_r p :: st) w Q ↔ (z_k w p = 11 ∧ z_c8 st 8 = true ∧ z_G d (0, 0) 150 0 [z_r p, z_i x0, z_x] [] w (fun r w' => z_G (d + 1) u 300 1128 ls (r.toList ++ st) w' Q)) := z_gcaV (d := d) (m := 300) (pc := 1125) (m' := 150) (k := 2) (nL := 3) (nx := 1128) (ci := 11) (p := p) (u := u) (ls := ls) (st := st) (w := w) (Q := Q) (vs := [z_r p, z_i x0]) ((zF300_17 1125 (by decide)).trans rfl) rfl rfl
set_option maxRecDepth 100000 in
theorem g300_1128 {d : Nat} {u : Nat × Nat} {ls st : List z_V} {w : z_W} {Q : z_P} {x : Int} : z_G d u 300 1128 ls (z_i x :: st) w Q ↔ z_G d u 300 1129 ls st w Q := z_gun ((zF300_17 1128 (by decide)).trans rfl)
set_option maxRecDepth 100000 in
theorem g300_1128r {d : Nat} {u : Nat × Nat} {ls st : List z_V} {w : z_W} {Q : z_P} {k : Nat} : z_G d u 300 1128 ls (z_r k :: st) w Q ↔ z_G d u 300 1129 ls st w Q := z_gun ((zF300_17 1128 (by decide)).trans rfl)
set_option maxRecDepth 100000 in
theorem g300_1129 {d : Nat} {u : Nat × Nat} {ls st : List z_V} {w : z_W} {Q : z_P} {o : Option Nat} {a0 a1 : z_V} : z_G d u 300 1129 (a0 :: a1 :: z_vr o :: ls) st w Q ↔ z_G d u 300 1130 (a0 :: a1 :: z_vr o :: ls) (z_vr o :: st) w Q := z_gun ((zF300_17 1129 (by decide)).trans rfl)
set_option maxRecDepth 100000 in
theorem g300_1129r {d : Nat} {u : Nat × Nat} {ls st : List z_V} {w : z_W} {Q : z_P} {k : Nat} {a0 a1 : z_V} : z_G d u 300 1129 (a0 :: a1 :: z_r k :: ls) st w Q ↔ z_G d u 300 1130 (a0 :: a1 :: z_r k :: ls) (z_r k :: st) w Q := z_gun ((zF300_17 1129 (by decide)).trans rfl)
set_option maxRecDepth 100000 in
theorem g300_1130 {d : Nat} {u : Nat × Nat} {ls st : List z_V} {w : z_W} {Q : z_P} {o : Option Nat} : z_G d u 300 1130 (z_vr o :: ls) st w Q ↔ z_G d u 300 1131 (z_vr o :: ls) (z_vr o :: st) w Q := z_gun ((zF300_17 1130 (by decide)).trans rfl)
set_option maxRecDepth 100000 in
theorem g300_1130r {d : Nat} {u : Nat × Nat} {ls st : List z_V} {w : z_W} {Q : z_P} {k : Nat} : z_G d u 300 1130 (z_r k :: ls) st w Q ↔ z_G d u 300 1131 (z_r k :: ls) (z_r k :: st) w Q := z_gun ((zF300_17 1130 (by decide)).trans rfl)
set_option maxRecDepth 100000 in
theorem g300_1131 {d : Nat} {u : Nat × Nat} {ls st : List z_V} {w : z_W} {Q : z_P} {z : Int} {a0 a1 a2 a3 : z_V} : z_G d u 300 1131 (a0 :: a1 :: a2 :: a3 :: z_i z :: ls) st w Q ↔ z_G d u 300 1133 (a0 :: a1 :: a2 :: a3 :: z_i z :: ls) (z_i z :: st) w Q := z_gun ((zF300_17 1131 (by decide)).trans rfl)
set_option maxRecDepth 100000 in
theorem g300_1133 {d : Nat} {u : Nat × Nat} {ls st : List z_V} {w : z_W} {Q : z_P} : z_G d u 300 1133 ls st w Q ↔ z_G d u 300 1134 ls (z_i (1) :: st) w Q := z_gun ((zF300_17 1133 (by decide)).trans rfl)
set_option maxRecDepth 100000 in
theorem g300_1134 {d : Nat} {u : Nat × Nat} {ls st : List z_V} {w : z_W} {Q : z_P} {x y : Int} : z_G d u 300 1134 ls (z_i y :: z_i x :: st) w Q ↔ z_G d u 300 1135 ls (z_i (z_add x y) :: st) w Q := z_gun ((zF300_17 1134 (by decide)).trans rfl)
set_option maxRecDepth 100000 in
theorem g300_1135 {d : Nat} {u : Nat × Nat} {ls st : List z_V} {w : z_W} {Q : z_P} {p : Nat} {i : Int} : z_G d u 300 1135 ls (z_i i :: z_r p :: st) w Q ↔ ((z_k w p = 100 ∨ z_k w p = 103) ∧ 0 ≤ i ∧ i < z_len w p ∧ (z_rg (z_I w p i) → z_G d u 300 1136 ls (z_i (z_I w p i) :: st) w Q)) := z_gun ((zF300_17 1135 (by decide)).trans rfl)
set_option maxRecDepth 100000 in
theorem g300_1136 {d : Nat} {u : Nat × Nat} {ls st : List z_V} {w : z_W} {Q : z_P} {p : Nat} {x0 : Int} : z_G (d + 1) u 300 1136 ls (z_i x0 :: z_r p :: st) w Q ↔ (z_k w p = 12 ∧ z_c8 st 8 = true ∧ z_G d (0, 0) 266 0 [z_r p, z_i x0] [] w (fun r w' => z_G (d + 1) u 300 1139 ls (r.toList ++ st) w' Q)) := z_gcaV (d := d) (m := 300) (pc := 1136) (m' := 266) (k := 2) (nL := 2) (nx := 1139) (ci := 12) (p := p) (u := u) (ls := ls) (st := st) (w := w) (Q := Q) (vs := [z_r p, z_i x0]) ((zF300_17 1136 (by decide)).trans rfl) rfl rfl
set_option maxRecDepth 100000 in
theorem g300_1139 {d : Nat} {u : Nat × Nat} {ls st : List z_V} {w : z_W} {Q : z_P} {x : Int} : z_G d u 300 1139 ls (z_i x :: st) w Q ↔ z_G d u 300 1140 ls st w Q := z_gun ((zF300_17 1139 (by decide)).trans rfl)
set_option maxRecDepth 100000 in
theorem g300_1139r {d : Nat} {u : Nat × Nat} {ls st : List z_V} {w : z_W} {Q : z_P} {k : Nat} : z_G d u 300 1139 ls (z_r k :: st) w Q ↔ z_G d u 300 1140 ls st w Q := z_gun ((zF300_17 1139 (by decide)).trans rfl)
set_option maxRecDepth 100000 in
theorem g300_1140 {d : Nat} {u : Nat × Nat} {ls st : List z_V} {w : z_W} {Q : z_P} : z_G d u 300 1140 ls st w Q ↔ z_G d u 300 1614 ls st w Q := z_gun ((zF300_17 1140 (by decide)).trans rfl)
set_option maxRecDepth 100000 in
theorem g300_1143 {d : Nat} {u : Nat × Nat} {ls st : List z_V} {w : z_W} {Q : z_P} {o : Option Nat} {a0 : z_V} : z_G d u 300 1143 (a0 :: z_vr o :: ls) st w Q ↔ z_G d u 300 1144 (a0 :: z_vr o :: ls) (z_vr o :: st) w Q := z_gun ((zF300_17 1143 (by decide)).trans rfl)
set_option maxRecDepth 100000 in
theorem g300_1143r {d : Nat} {u : Nat × Nat} {ls st : List z_V} {w : z_W} {Q : z_P} {k : Nat} {a0 : z_V} : z_G d u 300 1143 (a0 :: z_r k :: ls) st w Q ↔ z_G d u 300 1144 (a0 :: z_r k :: ls) (z_r k :: st) w Q := z_gun ((zF300_17 1143 (by decide)).trans rfl)
set_option maxRecDepth 100000 in
theorem g300_1144 {d : Nat} {u : Nat × Nat} {ls st : List z_V} {w : z_W} {Q : z_P} {o : Option Nat} : z_G d u 300 1144 (z_vr o :: ls) st w Q ↔ z_G d u 300 1145 (z_vr o :: ls) (z_vr o :: st) w Q := z_gun ((zF300_17 1144 (by decide)).trans rfl)
set_option maxRecDepth 100000 in
theorem g300_1144r {d : Nat} {u : Nat × Nat} {ls st : List z_V} {w : z_W} {Q : z_P} {k : Nat} : z_G d u 300 1144 (z_r k :: ls) st w Q ↔ z_G d u 300 1145 (z_r k :: ls) (z_r k :: st) w Q := z_gun ((zF300_17 1144 (by decide)).trans rfl)
set_option maxRecDepth 100000 in
theorem g300_1145 {d : Nat} {u : Nat × Nat} {ls st : List z_V} {w : z_W} {Q : z_P} {z : Int} {a0 a1 a2 a3 : z_V} : z_G d u 300 1145 (a0 :: a1 :: a2 :: a3 :: z_i z :: ls) st w Q ↔ z_G d u 300 1147 (a0 :: a1 :: a2 :: a3 :: z_i z :: ls) (z_i z :: st) w Q := z_gun ((zF300_17 1145 (by decide)).trans rfl)
set_option maxRecDepth 100000 in
theorem g300_1147 {d : Nat} {u : Nat × Nat} {ls st : List z_V} {w : z_W} {Q : z_P} : z_G d u 300 1147 ls st w Q ↔ z_G d u 300 1148 ls (z_i (1) :: st) w Q := z_gun ((zF300_17 1147 (by decide)).trans rfl)
set_option maxRecDepth 100000 in
theorem g300_1148 {d : Nat} {u : Nat × Nat} {ls st : List z_V} {w : z_W} {Q : z_P} {x y : Int} : z_G d u 300 1148 ls (z_i y :: z_i x :: st) w Q ↔ z_G d u 300 1149 ls (z_i (z_add x y) :: st) w Q := z_gun ((zF300_17 1148 (by decide)).trans rfl)
set_option maxRecDepth 100000 in
theorem g300_1149 {d : Nat} {u : Nat × Nat} {ls st : List z_V} {w : z_W} {Q : z_P} {p : Nat} {i : Int} : z_G d u 300 1149 ls (z_i i :: z_r p :: st) w Q ↔ ((z_k w p = 100 ∨ z_k w p = 103) ∧ 0 ≤ i ∧ i < z_len w p ∧ (z_rg (z_I w p i) → z_G d u 300 1150 ls (z_i (z_I w p i) :: st) w Q)) := z_gun ((zF300_17 1149 (by decide)).trans rfl)
set_option maxRecDepth 100000 in
theorem g300_1150 {d : Nat} {u : Nat × Nat} {ls st : List z_V} {w : z_W} {Q : z_P} {o : Option Nat} : z_G d u 300 1150 (z_vr o :: ls) st w Q ↔ z_G d u 300 1151 (z_vr o :: ls) (z_vr o :: st) w Q := z_gun ((zF300_17 1150 (by decide)).trans rfl)
set_option maxRecDepth 100000 in
theorem g300_1150r {d : Nat} {u : Nat × Nat} {ls st : List z_V} {w : z_W} {Q : z_P} {k : Nat} : z_G d u 300 1150 (z_r k :: ls) st w Q ↔ z_G d u 300 1151 (z_r k :: ls) (z_r k :: st) w Q := z_gun ((zF300_17 1150 (by decide)).trans rfl)
set_option maxRecDepth 100000 in
theorem g300_1151 {d : Nat} {u : Nat × Nat} {ls st : List z_V} {w : z_W} {Q : z_P} {z : Int} {a0 a1 a2 a3 : z_V} : z_G d u 300 1151 (a0 :: a1 :: a2 :: a3 :: z_i z :: ls) st w Q ↔ z_G d u 300 1153 (a0 :: a1 :: a2 :: a3 :: z_i z :: ls) (z_i z :: st) w Q := z_gun ((zF300_17 1151 (by decide)).trans rfl)
set_option maxRecDepth 100000 in
theorem g300_1153 {d : Nat} {u : Nat × Nat} {ls st : List z_V} {w : z_W} {Q : z_P} : z_G d u 300 1153 ls st w Q ↔ z_G d u 300 1154 ls (z_i (2) :: st) w Q := z_gun ((zF300_17 1153 (by decide)).trans rfl)
set_option maxRecDepth 100000 in
theorem g300_1154 {d : Nat} {u : Nat × Nat} {ls st : List z_V} {w : z_W} {Q : z_P} {x y : Int} : z_G d u 300 1154 ls (z_i y :: z_i x :: st) w Q ↔ z_G d u 300 1155 ls (z_i (z_add x y) :: st) w Q := z_gun ((zF300_17 1154 (by decide)).trans rfl)
set_option maxRecDepth 100000 in
theorem g300_1155 {d : Nat} {u : Nat × Nat} {ls st : List z_V} {w : z_W} {Q : z_P} {p : Nat} {i : Int} : z_G d u 300 1155 ls (z_i i :: z_r p :: st) w Q ↔ ((z_k w p = 100 ∨ z_k w p = 103) ∧ 0 ≤ i ∧ i < z_len w p ∧ (z_rg (z_I w p i) → z_G d u 300 1156 ls (z_i (z_I w p i) :: st) w Q)) := z_gun ((zF300_17 1155 (by decide)).trans rfl)
set_option maxRecDepth 100000 in
theorem g300_1156 {d : Nat} {u : Nat × Nat} {ls st : List z_V} {w : z_W} {Q : z_P} {p : Nat} {x0 x1 : Int} : z_G (d + 1) u 300 1156 ls (z_i x1 :: z_i x0 :: z_r p :: st) w Q ↔ (z_k w p = 11 ∧ z_c8 st 8 = true ∧ z_G d (0, 0) 151 0 [z_r p, z_i x0, z_i x1, z_x] [] w (fun r w' => z_G (d + 1) u 300 1159 ls (r.toList ++ st) w' Q)) := z_gcaV (d := d) (m := 300) (pc := 1156) (m' := 151) (k := 3) (nL := 4) (nx := 1159) (ci := 11) (p := p) (u := u) (ls := ls) (st := st) (w := w) (Q := Q) (vs := [z_r p, z_i x0, z_i x1]) ((zF300_17 1156 (by decide)).trans rfl) rfl rfl
set_option maxRecDepth 100000 in
theorem g300_1159 {d : Nat} {u : Nat × Nat} {ls st : List z_V} {w : z_W} {Q : z_P} {x : Int} : z_G d u 300 1159 ls (z_i x :: st) w Q ↔ z_G d u 300 1160 ls st w Q := z_gun ((zF300_17 1159 (by decide)).trans rfl)
set_option maxRecDepth 100000 in
theorem g300_1159r {d : Nat} {u : Nat × Nat} {ls st : List z_V} {w : z_W} {Q : z_P} {k : Nat} : z_G d u 300 1159 ls (z_r k :: st) w Q ↔ z_G d u 300 1160 ls st w Q := z_gun ((zF300_17 1159 (by decide)).trans rfl)
set_option maxRecDepth 100000 in
theorem g300_1160 {d : Nat} {u : Nat × Nat} {ls st : List z_V} {w : z_W} {Q : z_P} {o : Option Nat} {a0 a1 : z_V} : z_G d u 300 1160 (a0 :: a1 :: z_vr o :: ls) st w Q ↔ z_G d u 300 1161 (a0 :: a1 :: z_vr o :: ls) (z_vr o :: st) w Q := z_gun ((zF300_17 1160 (by decide)).trans rfl)
set_option maxRecDepth 100000 in
theorem g300_1160r {d : Nat} {u : Nat × Nat} {ls st : List z_V} {w : z_W} {Q : z_P} {k : Nat} {a0 a1 : z_V} : z_G d u 300 1160 (a0 :: a1 :: z_r k :: ls) st w Q ↔ z_G d u 300 1161 (a0 :: a1 :: z_r k :: ls) (z_r k :: st) w Q := z_gun ((zF300_17 1160 (by decide)).trans rfl)
set_option maxRecDepth 100000 in
theorem g300_1161 {d : Nat} {u : Nat × Nat} {ls st : List z_V} {w : z_W} {Q : z_P} {o : Option Nat} : z_G d u 300 1161 (z_vr o :: ls) st w Q ↔ z_G d u 300 1162 (z_vr o :: ls) (z_vr o :: st) w Q := z_gun ((zF300_17 1161 (by decide)).trans rfl)
set_option maxRecDepth 100000 in
theorem g300_1161r {d : Nat} {u : Nat × Nat} {ls st : List z_V} {w : z_W} {Q : z_P} {k : Nat} : z_G d u 300 1161 (z_r k :: ls) st w Q ↔ z_G d u 300 1162 (z_r k :: ls) (z_r k :: st) w Q := z_gun ((zF300_17 1161 (by decide)).trans rfl)
set_option maxRecDepth 100000 in
theorem g300_1162 {d : Nat} {u : Nat × Nat} {ls st : List z_V} {w : z_W} {Q : z_P} {z : Int} {a0 a1 a2 a3 : z_V} : z_G d u 300 1162 (a0 :: a1 :: a2 :: a3 :: z_i z :: ls) st w Q ↔ z_G d u 300 1164 (a0 :: a1 :: a2 :: a3 :: z_i z :: ls) (z_i z :: st) w Q := z_gun ((zF300_18 1162 (by decide)).trans rfl)
set_option maxRecDepth 100000 in
theorem g300_1164 {d : Nat} {u : Nat × Nat} {ls st : List z_V} {w : z_W} {Q : z_P} : z_G d u 300 1164 ls st w Q ↔ z_G d u 300 1165 ls (z_i (1) :: st) w Q := z_gun ((zF300_18 1164 (by decide)).trans rfl)
set_option maxRecDepth 100000 in
theorem g300_1165 {d : Nat} {u : Nat × Nat} {ls st : List z_V} {w : z_W} {Q : z_P} {x y : Int} : z_G d u 300 1165 ls (z_i y :: z_i x :: st) w Q ↔ z_G d u 300 1166 ls (z_i (z_add x y) :: st) w Q := z_gun ((zF300_18 1165 (by decide)).trans rfl)
set_option maxRecDepth 100000 in
theorem g300_1166 {d : Nat} {u : Nat × Nat} {ls st : List z_V} {w : z_W} {Q : z_P} {p : Nat} {i : Int} : z_G d u 300 1166 ls (z_i i :: z_r p :: st) w Q ↔ ((z_k w p = 100 ∨ z_k w p = 103) ∧ 0 ≤ i ∧ i < z_len w p ∧ (z_rg (z_I w p i) → z_G d u 300 1167 ls (z_i (z_I w p i) :: st) w Q)) := z_gun ((zF300_18 1166 (by decide)).trans rfl)
set_option maxRecDepth 100000 in
theorem g300_1167 {d : Nat} {u : Nat × Nat} {ls st : List z_V} {w : z_W} {Q : z_P} {o : Option Nat} : z_G d u 300 1167 (z_vr o :: ls) st w Q ↔ z_G d u 300 1168 (z_vr o :: ls) (z_vr o :: st) w Q := z_gun ((zF300_18 1167 (by decide)).trans rfl)
set_option maxRecDepth 100000 in
theorem g300_1167r {d : Nat} {u : Nat × Nat} {ls st : List z_V} {w : z_W} {Q : z_P} {k : Nat} : z_G d u 300 1167 (z_r k :: ls) st w Q ↔ z_G d u 300 1168 (z_r k :: ls) (z_r k :: st) w Q := z_gun ((zF300_18 1167 (by decide)).trans rfl)
set_option maxRecDepth 100000 in
theorem g300_1168 {d : Nat} {u : Nat × Nat} {ls st : List z_V} {w : z_W} {Q : z_P} {z : Int} {a0 a1 a2 a3 : z_V} : z_G d u 300 1168 (a0 :: a1 :: a2 :: a3 :: z_i z :: ls) st w Q ↔ z_G d u 300 1170 (a0 :: a1 :: a2 :: a3 :: z_i z :: ls) (z_i z :: st) w Q := z_gun ((zF300_18 1168 (by decide)).trans rfl)
set_option maxRecDepth 100000 in
theorem g300_1170 {d : Nat} {u : Nat × Nat} {ls st : List z_V} {w : z_W} {Q : z_P} : z_G d u 300 1170 ls st w Q ↔ z_G d u 300 1171 ls (z_i (2) :: st) w Q := z_gun ((zF300_18 1170 (by decide)).trans rfl)
set_option maxRecDepth 100000 in
theorem g300_1171 {d : Nat} {u : Nat × Nat} {ls st : List z_V} {w : z_W} {Q : z_P} {x y : Int} : z_G d u 300 1171 ls (z_i y :: z_i x :: st) w Q ↔ z_G d u 300 1172 ls (z_i (z_add x y) :: st) w Q := z_gun ((zF300_18 1171 (by decide)).trans rfl)
set_option maxRecDepth 100000 in
theorem g300_1172 {d : Nat} {u : Nat × Nat} {ls st : List z_V} {w : z_W} {Q : z_P} {p : Nat} {i : Int} : z_G d u 300 1172 ls (z_i i :: z_r p :: st) w Q ↔ ((z_k w p = 100 ∨ z_k w p = 103) ∧ 0 ≤ i ∧ i < z_len w p ∧ (z_rg (z_I w p i) → z_G d u 300 1173 ls (z_i (z_I w p i) :: st) w Q)) := z_gun ((zF300_18 1172 (by decide)).trans rfl)
set_option maxRecDepth 100000 in
theorem g300_1173 {d : Nat} {u : Nat × Nat} {ls st : List z_V} {w : z_W} {Q : z_P} {p : Nat} {x0 x1 : Int} : z_G (d + 1) u 300 1173 ls (z_i x1 :: z_i x0 :: z_r p :: st) w Q ↔ (z_k w p = 12 ∧ z_c8 st 8 = true ∧ z_G d (0, 0) 270 0 [z_r p, z_i x0, z_i x1] [] w (fun r w' => z_G (d + 1) u 300 1176 ls (r.toList ++ st) w' Q)) := z_gcaV (d := d) (m := 300) (pc := 1173) (m' := 270) (k := 3) (nL := 3) (nx := 1176) (ci := 12) (p := p) (u := u) (ls := ls) (st := st) (w := w) (Q := Q) (vs := [z_r p, z_i x0, z_i x1]) ((zF300_18 1173 (by decide)).trans rfl) rfl rfl
set_option maxRecDepth 100000 in
theorem g300_1176 {d : Nat} {u : Nat × Nat} {ls st : List z_V} {w : z_W} {Q : z_P} {x : Int} : z_G d u 300 1176 ls (z_i x :: st) w Q ↔ z_G d u 300 1177 ls st w Q := z_gun ((zF300_18 1176 (by decide)).trans rfl)
set_option maxRecDepth 100000 in
theorem g300_1176r {d : Nat} {u : Nat × Nat} {ls st : List z_V} {w : z_W} {Q : z_P} {k : Nat} : z_G d u 300 1176 ls (z_r k :: st) w Q ↔ z_G d u 300 1177 ls st w Q := z_gun ((zF300_18 1176 (by decide)).trans rfl)
set_option maxRecDepth 100000 in
theorem g300_1177 {d : Nat} {u : Nat × Nat} {ls st : List z_V} {w : z_W} {Q : z_P} : z_G d u 300 1177 ls st w Q ↔ z_G d u 300 1614 ls st w Q := z_gun ((zF300_18 1177 (by decide)).trans rfl)
set_option maxRecDepth 100000 in
theorem g300_1180 {d : Nat} {u : Nat × Nat} {ls st : List z_V} {w : z_W} {Q : z_P} {o : Option Nat} {a0 : z_V} : z_G d u 300 1180 (a0 :: z_vr o :: ls) st w Q ↔ z_G d u 300 1181 (a0 :: z_vr o :: ls) (z_vr o :: st) w Q := z_gun ((zF300_18 1180 (by decide)).trans rfl)
set_option maxRecDepth 100000 in
theorem g300_1180r {d : Nat} {u : Nat × Nat} {ls st : List z_V} {w : z_W} {Q : z_P} {k : Nat} {a0 : z_V} : z_G d u 300 1180 (a0 :: z_r k :: ls) st w Q ↔ z_G d u 300 1181 (a0 :: z_r k :: ls) (z_r k :: st) w Q := z_gun ((zF300_18 1180 (by decide)).trans rfl)
set_option maxRecDepth 100000 in
theorem g300_1181 {d : Nat} {u : Nat × Nat} {ls st : List z_V} {w : z_W} {Q : z_P} {o : Option Nat} : z_G d u 300 1181 (z_vr o :: ls) st w Q ↔ z_G d u 300 1182 (z_vr o :: ls) (z_vr o :: st) w Q := z_gun ((zF300_18 1181 (by decide)).trans rfl)
set_option maxRecDepth 100000 in
theorem g300_1181r {d : Nat} {u : Nat × Nat} {ls st : List z_V} {w : z_W} {Q : z_P} {k : Nat} : z_G d u 300 1181 (z_r k :: ls) st w Q ↔ z_G d u 300 1182 (z_r k :: ls) (z_r k :: st) w Q := z_gun ((zF300_18 1181 (by decide)).trans rfl)
set_option maxRecDepth 100000 in
theorem g300_1182 {d : Nat} {u : Nat × Nat} {ls st : List z_V} {w : z_W} {Q : z_P} {z : Int} {a0 a1 a2 a3 : z_V} : z_G d u 300 1182 (a0 :: a1 :: a2 :: a3 :: z_i z :: ls) st w Q ↔ z_G d u 300 1184 (a0 :: a1 :: a2 :: a3 :: z_i z :: ls) (z_i z :: st) w Q := z_gun ((zF300_18 1182 (by decide)).trans rfl)
set_option maxRecDepth 100000 in
theorem g300_1184 {d : Nat} {u : Nat × Nat} {ls st : List z_V} {w : z_W} {Q : z_P} : z_G d u 300 1184 ls st w Q ↔ z_G d u 300 1185 ls (z_i (1) :: st) w Q := z_gun ((zF300_18 1184 (by decide)).trans rfl)
set_option maxRecDepth 100000 in
theorem g300_1185 {d : Nat} {u : Nat × Nat} {ls st : List z_V} {w : z_W} {Q : z_P} {x y : Int} : z_G d u 300 1185 ls (z_i y :: z_i x :: st) w Q ↔ z_G d u 300 1186 ls (z_i (z_add x y) :: st) w Q := z_gun ((zF300_18 1185 (by decide)).trans rfl)
set_option maxRecDepth 100000 in
theorem g300_1186 {d : Nat} {u : Nat × Nat} {ls st : List z_V} {w : z_W} {Q : z_P} {p : Nat} {i : Int} : z_G d u 300 1186 ls (z_i i :: z_r p :: st) w Q ↔ ((z_k w p = 100 ∨ z_k w p = 103) ∧ 0 ≤ i ∧ i < z_len w p ∧ (z_rg (z_I w p i) → z_G d u 300 1187 ls (z_i (z_I w p i) :: st) w Q)) := z_gun ((zF300_18 1186 (by decide)).trans rfl)
set_option maxRecDepth 100000 in
theorem g300_1187 {d : Nat} {u : Nat × Nat} {ls st : List z_V} {w : z_W} {Q : z_P} {p : Nat} {x0 : Int} : z_G (d + 1) u 300 1187 ls (z_i x0 :: z_r p :: st) w Q ↔ (z_k w p = 11 ∧ z_c8 st 8 = true ∧ z_G d (0, 0) 152 0 [z_r p, z_i x0] [] w (fun r w' => z_G (d + 1) u 300 1190 ls (r.toList ++ st) w' Q)) := z_gcaV (d := d) (m := 300) (pc := 1187) (m' := 152) (k := 2) (nL := 2) (nx := 1190) (ci := 11) (p := p) (u := u) (ls := ls) (st := st) (w := w) (Q := Q) (vs := [z_r p, z_i x0]) ((zF300_18 1187 (by decide)).trans rfl) rfl rfl
set_option maxRecDepth 100000 in
theorem g300_1190 {d : Nat} {u : Nat × Nat} {ls st : List z_V} {w : z_W} {Q : z_P} {x : Int} : z_G d u 300 1190 ls (z_i x :: st) w Q ↔ z_G d u 300 1191 ls st w Q := z_gun ((zF300_18 1190 (by decide)).trans rfl)
set_option maxRecDepth 100000 in
theorem g300_1190r {d : Nat} {u : Nat × Nat} {ls st : List z_V} {w : z_W} {Q : z_P} {k : Nat} : z_G d u 300 1190 ls (z_r k :: st) w Q ↔ z_G d u 300 1191 ls st w Q := z_gun ((zF300_18 1190 (by decide)).trans rfl)
set_option maxRecDepth 100000 in
theorem g300_1191 {d : Nat} {u : Nat × Nat} {ls st : List z_V} {w : z_W} {Q : z_P} {o : Option Nat} {a0 a1 : z_V} : z_G d u 300 1191 (a0 :: a1 :: z_vr o :: ls) st w Q ↔ z_G d u 300 1192 (a0 :: a1 :: z_vr o :: ls) (z_vr o :: st) w Q := z_gun ((zF300_18 1191 (by decide)).trans rfl)
set_option maxRecDepth 100000 in
theorem g300_1191r {d : Nat} {u : Nat × Nat} {ls st : List z_V} {w : z_W} {Q : z_P} {k : Nat} {a0 a1 : z_V} : z_G d u 300 1191 (a0 :: a1 :: z_r k :: ls) st w Q ↔ z_G d u 300 1192 (a0 :: a1 :: z_r k :: ls) (z_r k :: st) w Q := z_gun ((zF300_18 1191 (by decide)).trans rfl)
set_option maxRecDepth 100000 in
theorem g300_1192 {d : Nat} {u : Nat × Nat} {ls st : List z_V} {w : z_W} {Q : z_P} {o : Option Nat} : z_G d u 300 1192 (z_vr o :: ls) st w Q ↔ z_G d u 300 1193 (z_vr o :: ls) (z_vr o :: st) w Q := z_gun ((zF300_18 1192 (by decide)).trans rfl)
set_option maxRecDepth 100000 in
theorem g300_1192r {d : Nat} {u : Nat × Nat} {ls st : List z_V} {w : z_W} {Q : z_P} {k : Nat} : z_G d u 300 1192 (z_r k :: ls) st w Q ↔ z_G d u 300 1193 (z_r k :: ls) (z_r k :: st) w Q := z_gun ((zF300_18 1192 (by decide)).trans rfl)
set_option maxRecDepth 100000 in
theorem g300_1193 {d : Nat} {u : Nat × Nat} {ls st : List z_V} {w : z_W} {Q : z_P} {z : Int} {a0 a1 a2 a3 : z_V} : z_G d u 300 1193 (a0 :: a1 :: a2 :: a3 :: z_i z :: ls) st w Q ↔ z_G d u 300 1195 (a0 :: a1 :: a2 :: a3 :: z_i z :: ls) (z_i z :: st) w Q := z_gun ((zF300_18 1193 (by decide)).trans rfl)
set_option maxRecDepth 100000 in
theorem g300_1195 {d : Nat} {u : Nat × Nat} {ls st : List z_V} {w : z_W} {Q : z_P} : z_G d u 300 1195 ls st w Q ↔ z_G d u 300 1196 ls (z_i (1) :: st) w Q := z_gun ((zF300_18 1195 (by decide)).trans rfl)
set_option maxRecDepth 100000 in
theorem g300_1196 {d : Nat} {u : Nat × Nat} {ls st : List z_V} {w : z_W} {Q : z_P} {x y : Int} : z_G d u 300 1196 ls (z_i y :: z_i x :: st) w Q ↔ z_G d u 300 1197 ls (z_i (z_add x y) :: st) w Q := z_gun ((zF300_18 1196 (by decide)).trans rfl)
set_option maxRecDepth 100000 in
theorem g300_1197 {d : Nat} {u : Nat × Nat} {ls st : List z_V} {w : z_W} {Q : z_P} {p : Nat} {i : Int} : z_G d u 300 1197 ls (z_i i :: z_r p :: st) w Q ↔ ((z_k w p = 100 ∨ z_k w p = 103) ∧ 0 ≤ i ∧ i < z_len w p ∧ (z_rg (z_I w p i) → z_G d u 300 1198 ls (z_i (z_I w p i) :: st) w Q)) := z_gun ((zF300_18 1197 (by decide)).trans rfl)
set_option maxRecDepth 100000 in
theorem g300_1198 {d : Nat} {u : Nat × Nat} {ls st : List z_V} {w : z_W} {Q : z_P} {p : Nat} {x0 : Int} : z_G (d + 1) u 300 1198 ls (z_i x0 :: z_r p :: st) w Q ↔ (z_k w p = 12 ∧ z_c8 st 8 = true ∧ z_G d (0, 0) 271 0 [z_r p, z_i x0, z_x, z_x, z_x] [] w (fun r w' => z_G (d + 1) u 300 1201 ls (r.toList ++ st) w' Q)) := z_gcaV (d := d) (m := 300) (pc := 1198) (m' := 271) (k := 2) (nL := 5) (nx := 1201) (ci := 12) (p := p) (u := u) (ls := ls) (st := st) (w := w) (Q := Q) (vs := [z_r p, z_i x0]) ((zF300_18 1198 (by decide)).trans rfl) rfl rfl
set_option maxRecDepth 100000 in
theorem g300_1201 {d : Nat} {u : Nat × Nat} {ls st : List z_V} {w : z_W} {Q : z_P} {x : Int} : z_G d u 300 1201 ls (z_i x :: st) w Q ↔ z_G d u 300 1202 ls st w Q := z_gun ((zF300_18 1201 (by decide)).trans rfl)
set_option maxRecDepth 100000 in
theorem g300_1201r {d : Nat} {u : Nat × Nat} {ls st : List z_V} {w : z_W} {Q : z_P} {k : Nat} : z_G d u 300 1201 ls (z_r k :: st) w Q ↔ z_G d u 300 1202 ls st w Q := z_gun ((zF300_18 1201 (by decide)).trans rfl)
set_option maxRecDepth 100000 in
theorem g300_1202 {d : Nat} {u : Nat × Nat} {ls st : List z_V} {w : z_W} {Q : z_P} : z_G d u 300 1202 ls st w Q ↔ z_G d u 300 1614 ls st w Q := z_gun ((zF300_18 1202 (by decide)).trans rfl)
set_option maxRecDepth 100000 in
theorem g300_1205 {d : Nat} {u : Nat × Nat} {ls st : List z_V} {w : z_W} {Q : z_P} {o : Option Nat} {a0 : z_V} : z_G d u 300 1205 (a0 :: z_vr o :: ls) st w Q ↔ z_G d u 300 1206 (a0 :: z_vr o :: ls) (z_vr o :: st) w Q := z_gun ((zF300_18 1205 (by decide)).trans rfl)
set_option maxRecDepth 100000 in
theorem g300_1205r {d : Nat} {u : Nat × Nat} {ls st : List z_V} {w : z_W} {Q : z_P} {k : Nat} {a0 : z_V} : z_G d u 300 1205 (a0 :: z_r k :: ls) st w Q ↔ z_G d u 300 1206 (a0 :: z_r k :: ls) (z_r k :: st) w Q := z_gun ((zF300_18 1205 (by decide)).trans rfl)
set_option maxRecDepth 100000 in
theorem g300_1206 {d : Nat} {u : Nat × Nat} {ls st : List z_V} {w : z_W} {Q : z_P} {o : Option Nat} : z_G d u 300 1206 (z_vr o :: ls) st w Q ↔ z_G d u 300 1207 (z_vr o :: ls) (z_vr o :: st) w Q := z_gun ((zF300_18 1206 (by decide)).trans rfl)
set_option maxRecDepth 100000 in
theorem g300_1206r {d : Nat} {u : Nat × Nat} {ls st : List z_V} {w : z_W} {Q : z_P} {k : Nat} : z_G d u 300 1206 (z_r k :: ls) st w Q ↔ z_G d u 300 1207 (z_r k :: ls) (z_r k :: st) w Q := z_gun ((zF300_18 1206 (by decide)).trans rfl)
set_option maxRecDepth 100000 in
theorem g300_1207 {d : Nat} {u : Nat × Nat} {ls st : List z_V} {w : z_W} {Q : z_P} {z : Int} {a0 a1 a2 a3 : z_V} : z_G d u 300 1207 (a0 :: a1 :: a2 :: a3 :: z_i z :: ls) st w Q ↔ z_G d u 300 1209 (a0 :: a1 :: a2 :: a3 :: z_i z :: ls) (z_i z :: st) w Q := z_gun ((zF300_18 1207 (by decide)).trans rfl)
set_option maxRecDepth 100000 in
theorem g300_1209 {d : Nat} {u : Nat × Nat} {ls st : List z_V} {w : z_W} {Q : z_P} : z_G d u 300 1209 ls st w Q ↔ z_G d u 300 1210 ls (z_i (1) :: st) w Q := z_gun ((zF300_18 1209 (by decide)).trans rfl)
set_option maxRecDepth 100000 in
theorem g300_1210 {d : Nat} {u : Nat × Nat} {ls st : List z_V} {w : z_W} {Q : z_P} {x y : Int} : z_G d u 300 1210 ls (z_i y :: z_i x :: st) w Q ↔ z_G d u 300 1211 ls (z_i (z_add x y) :: st) w Q := z_gun ((zF300_18 1210 (by decide)).trans rfl)
set_option maxRecDepth 100000 in
theorem g300_1211 {d : Nat} {u : Nat × Nat} {ls st : List z_V} {w : z_W} {Q : z_P} {p : Nat} {i : Int} : z_G d u 300 1211 ls (z_i i :: z_r p :: st) w Q ↔ ((z_k w p = 100 ∨ z_k w p = 103) ∧ 0 ≤ i ∧ i < z_len w p ∧ (z_rg (z_I w p i) → z_G d u 300 1212 ls (z_i (z_I w p i) :: st) w Q)) := z_gun ((zF300_18 1211 (by decide)).trans rfl)
set_option maxRecDepth 100000 in
theorem g300_1212 {d : Nat} {u : Nat × Nat} {ls st : List z_V} {w : z_W} {Q : z_P} {o : Option Nat} : z_G d u 300 1212 (z_vr o :: ls) st w Q ↔ z_G d u 300 1213 (z_vr o :: ls) (z_vr o :: st) w Q := z_gun ((zF300_18 1212 (by decide)).trans rfl)
set_option maxRecDepth 100000 in
theorem g300_1212r {d : Nat} {u : Nat × Nat} {ls st : List z_V} {w : z_W} {Q : z_P} {k : Nat} : z_G d u 300 1212 (z_r k :: ls) st w Q ↔ z_G d u 300 1213 (z_r k :: ls) (z_r k :: st) w Q := z_gun ((zF300_18 1212 (by decide)).trans rfl)
set_option maxRecDepth 100000 in
theorem g300_1213 {d : Nat} {u : Nat × Nat} {ls st : List z_V} {w : z_W} {Q : z_P} {z : Int} {a0 a1 a2 a3 : z_V} : z_G d u 300 1213 (a0 :: a1 :: a2 :: a3 :: z_i z :: ls) st w Q ↔ z_G d u 300 1215 (a0 :: a1 :: a2 :: a3 :: z_i z :: ls) (z_i z :: st) w Q := z_gun ((zF300_18 1213 (by decide)).trans rfl)
set_option maxRecDepth 100000 in
theorem g300_1215 {d : Nat} {u : Nat × Nat} {ls st : List z_V} {w : z_W} {Q : z_P} : z_G d u 300 1215 ls st w Q ↔ z_G d u 300 1216 ls (z_i (2) :: st) w Q := z_gun ((zF300_18 1215 (by decide)).trans rfl)
set_option maxRecDepth 100000 in
theorem g300_1216 {d : Nat} {u : Nat × Nat} {ls st : List z_V} {w : z_W} {Q : z_P} {x y : Int} : z_G d u 300 1216 ls (z_i y :: z_i x :: st) w Q ↔ z_G d u 300 1217 ls (z_i (z_add x y) :: st) w Q := z_gun ((zF300_18 1216 (by decide)).trans rfl)
set_option maxRecDepth 100000 in
theorem g300_1217 {d : Nat} {u : Nat × Nat} {ls st : List z_V} {w : z_W} {Q : z_P} {p : Nat} {i : Int} : z_G d u 300 1217 ls (z_i i :: z_r p :: st) w Q ↔ ((z_k w p = 100 ∨ z_k w p = 103) ∧ 0 ≤ i ∧ i < z_len w p ∧ (z_rg (z_I w p i) → z_G d u 300 1218 ls (z_i (z_I w p i) :: st) w Q)) := z_gun ((zF300_18 1217 (by decide)).trans rfl)
set_option maxRecDepth 100000 in
theorem g300_1218 {d : Nat} {u : Nat × Nat} {ls st : List z_V} {w : z_W} {Q : z_P} {o : Option Nat} : z_G d u 300 1218 (z_vr o :: ls) st w Q ↔ z_G d u 300 1219 (z_vr o :: ls) (z_vr o :: st) w Q := z_gun ((zF300_19 1218 (by decide)).trans rfl)
set_option maxRecDepth 100000 in
theorem g300_1218r {d : Nat} {u : Nat × Nat} {ls st : List z_V} {w : z_W} {Q : z_P} {k : Nat} : z_G d u 300 1218 (z_r k :: ls) st w Q ↔ z_G d u 300 1219 (z_r k :: ls) (z_r k :: st) w Q := z_gun ((zF300_19 1218 (by decide)).trans rfl)
set_option maxRecDepth 100000 in
theorem g300_1219 {d : Nat} {u : Nat × Nat} {ls st : List z_V} {w : z_W} {Q : z_P} {z : Int} {a0 a1 a2 a3 : z_V} : z_G d u 300 1219 (a0 :: a1 :: a2 :: a3 :: z_i z :: ls) st w Q ↔ z_G d u 300 1221 (a0 :: a1 :: a2 :: a3 :: z_i z :: ls) (z_i z :: st) w Q := z_gun ((zF300_19 1219 (by decide)).trans rfl)
set_option maxRecDepth 100000 in
theorem g300_1221 {d : Nat} {u : Nat × Nat} {ls st : List z_V} {w : z_W} {Q : z_P} : z_G d u 300 1221 ls st w Q ↔ z_G d u 300 1222 ls (z_i (3) :: st) w Q := z_gun ((zF300_19 1221 (by decide)).trans rfl)
set_option maxRecDepth 100000 in
theorem g300_1222 {d : Nat} {u : Nat × Nat} {ls st : List z_V} {w : z_W} {Q : z_P} {x y : Int} : z_G d u 300 1222 ls (z_i y :: z_i x :: st) w Q ↔ z_G d u 300 1223 ls (z_i (z_add x y) :: st) w Q := z_gun ((zF300_19 1222 (by decide)).trans rfl)
set_option maxRecDepth 100000 in
theorem g300_1223 {d : Nat} {u : Nat × Nat} {ls st : List z_V} {w : z_W} {Q : z_P} {p : Nat} {i : Int} : z_G d u 300 1223 ls (z_i i :: z_r p :: st) w Q ↔ ((z_k w p = 100 ∨ z_k w p = 103) ∧ 0 ≤ i ∧ i < z_len w p ∧ (z_rg (z_I w p i) → z_G d u 300 1224 ls (z_i (z_I w p i) :: st) w Q)) := z_gun ((zF300_19 1223 (by decide)).trans rfl)
set_option maxRecDepth 100000 in
theorem g300_1224 {d : Nat} {u : Nat × Nat} {ls st : List z_V} {w : z_W} {Q : z_P} {o : Option Nat} : z_G d u 300 1224 (z_vr o :: ls) st w Q ↔ z_G d u 300 1225 (z_vr o :: ls) (z_vr o :: st) w Q := z_gun ((zF300_19 1224 (by decide)).trans rfl)
set_option maxRecDepth 100000 in
theorem g300_1224r {d : Nat} {u : Nat × Nat} {ls st : List z_V} {w : z_W} {Q : z_P} {k : Nat} : z_G d u 300 1224 (z_r k :: ls) st w Q ↔ z_G d u 300 1225 (z_r k :: ls) (z_r k :: st) w Q := z_gun ((zF300_19 1224 (by decide)).trans rfl)
set_option maxRecDepth 100000 in
theorem g300_1225 {d : Nat} {u : Nat × Nat} {ls st : List z_V} {w : z_W} {Q : z_P} {z : Int} {a0 a1 a2 a3 : z_V} : z_G d u 300 1225 (a0 :: a1 :: a2 :: a3 :: z_i z :: ls) st w Q ↔ z_G d u 300 1227 (a0 :: a1 :: a2 :: a3 :: z_i z :: ls) (z_i z :: st) w Q := z_gun ((zF300_19 1225 (by decide)).trans rfl)
set_option maxRecDepth 100000 in
theorem g300_1227 {d : Nat} {u : Nat × Nat} {ls st : List z_V} {w : z_W} {Q : z_P} : z_G d u 300 1227 ls st w Q ↔ z_G d u 300 1228 ls (z_i (4) :: st) w Q := z_gun ((zF300_19 1227 (by decide)).trans rfl)
set_option maxRecDepth 100000 in
theorem g300_1228 {d : Nat} {u : Nat × Nat} {ls st : List z_V} {w : z_W} {Q : z_P} {x y : Int} : z_G d u 300 1228 ls (z_i y :: z_i x :: st) w Q ↔ z_G d u 300 1229 ls (z_i (z_add x y) :: st) w Q := z_gun ((zF300_19 1228 (by decide)).trans rfl)
set_option maxRecDepth 100000 in
theorem g300_1229 {d : Nat} {u : Nat × Nat} {ls st : List z_V} {w : z_W} {Q : z_P} {p : Nat} {i : Int} : z_G d u 300 1229 ls (z_i i :: z_r p :: st) w Q ↔ ((z_k w p = 100 ∨ z_k w p = 103) ∧ 0 ≤ i ∧ i < z_len w p ∧ (z_rg (z_I w p i) → z_G d u 300 1230 ls (z_i (z_I w p i) :: st) w Q)) := z_gun ((zF300_19 1229 (by decide)).trans rfl)
set_option maxRecDepth 100000 in
theorem g300_1230 {d : Nat} {u : Nat × Nat} {ls st : List z_V} {w : z_W} {Q : z_P} {o : Option Nat} : z_G d u 300 1230 (z_vr o :: ls) st w Q ↔ z_G d u 300 1231 (z_vr o :: ls) (z_vr o :: st) w Q := z_gun ((zF300_19 1230 (by decide)).trans rfl)
set_option maxRecDepth 100000 in
theorem g300_1230r {d : Nat} {u : Nat × Nat} {ls st : List z_V} {w : z_W} {Q : z_P} {k : Nat} : z_G d u 300 1230 (z_r k :: ls) st w Q ↔ z_G d u 300 1231 (z_r k :: ls) (z_r k :: st) w Q := z_gun ((zF300_19 1230 (by decide)).trans rfl)
set_option maxRecDepth 100000 in
theorem g300_1231 {d : Nat} {u : Nat × Nat} {ls st : List z_V} {w : z_W} {Q : z_P} {z : Int} {a0 a1 a2 a3 : z_V} : z_G d u 300 1231 (a0 :: a1 :: a2 :: a3 :: z_i z :: ls) st w Q ↔ z_G d u 300 1233 (a0 :: a1 :: a2 :: a3 :: z_i z :: ls) (z_i z :: st) w Q := z_gun ((zF300_19 1231 (by decide)).trans rfl)
set_option maxRecDepth 100000 in
theorem g300_1233 {d : Nat} {u : Nat × Nat} {ls st : List z_V} {w : z_W} {Q : z_P} : z_G d u 300 1233 ls st w Q ↔ z_G d u 300 1234 ls (z_i (5) :: st) w Q := z_gun ((zF300_19 1233 (by decide)).trans rfl)
set_option maxRecDepth 100000 in
theorem g300_1234 {d : Nat} {u : Nat × Nat} {ls st : List z_V} {w : z_W} {Q : z_P} {x y : Int} : z_G d u 300 1234 ls (z_i y :: z_i x :: st) w Q ↔ z_G d u 300 1235 ls (z_i (z_add x y) :: st) w Q := z_gun ((zF300_19 1234 (by decide)).trans rfl)
set_option maxRecDepth 100000 in
theorem g300_1235 {d : Nat} {u : Nat × Nat} {ls st : List z_V} {w : z_W} {Q : z_P} {p : Nat} {i : Int} : z_G d u 300 1235 ls (z_i i :: z_r p :: st) w Q ↔ ((z_k w p = 100 ∨ z_k w p = 103) ∧ 0 ≤ i ∧ i < z_len w p ∧ (z_rg (z_I w p i) → z_G d u 300 1236 ls (z_i (z_I w p i) :: st) w Q)) := z_gun ((zF300_19 1235 (by decide)).trans rfl)
set_option maxRecDepth 100000 in
theorem g300_1236 {d : Nat} {u : Nat × Nat} {ls st : List z_V} {w : z_W} {Q : z_P} {o : Option Nat} : z_G d u 300 1236 (z_vr o :: ls) st w Q ↔ z_G d u 300 1237 (z_vr o :: ls) (z_vr o :: st) w Q := z_gun ((zF300_19 1236 (by decide)).trans rfl)
set_option maxRecDepth 100000 in
theorem g300_1236r {d : Nat} {u : Nat × Nat} {ls st : List z_V} {w : z_W} {Q : z_P} {k : Nat} : z_G d u 300 1236 (z_r k :: ls) st w Q ↔ z_G d u 300 1237 (z_r k :: ls) (z_r k :: st) w Q := z_gun ((zF300_19 1236 (by decide)).trans rfl)
set_option maxRecDepth 100000 in
theorem g300_1237 {d : Nat} {u : Nat × Nat} {ls st : List z_V} {w : z_W} {Q : z_P} {z : Int} {a0 a1 a2 a3 : z_V} : z_G d u 300 1237 (a0 :: a1 :: a2 :: a3 :: z_i z :: ls) st w Q ↔ z_G d u 300 1239 (a0 :: a1 :: a2 :: a3 :: z_i z :: ls) (z_i z :: st) w Q := z_gun ((zF300_19 1237 (by decide)).trans rfl)
set_option maxRecDepth 100000 in
theorem g300_1239 {d : Nat} {u : Nat × Nat} {ls st : List z_V} {w : z_W} {Q : z_P} : z_G d u 300 1239 ls st w Q ↔ z_G d u 300 1241 ls (z_i (6) :: st) w Q := z_gun ((zF300_19 1239 (by decide)).trans rfl)
set_option maxRecDepth 100000 in
theorem g300_1241 {d : Nat} {u : Nat × Nat} {ls st : List z_V} {w : z_W} {Q : z_P} {x y : Int} : z_G d u 300 1241 ls (z_i y :: z_i x :: st) w Q ↔ z_G d u 300 1242 ls (z_i (z_add x y) :: st) w Q := z_gun ((zF300_19 1241 (by decide)).trans rfl)
set_option maxRecDepth 100000 in
theorem g300_1242 {d : Nat} {u : Nat × Nat} {ls st : List z_V} {w : z_W} {Q : z_P} {p : Nat} {i : Int} : z_G d u 300 1242 ls (z_i i :: z_r p :: st) w Q ↔ ((z_k w p = 100 ∨ z_k w p = 103) ∧ 0 ≤ i ∧ i < z_len w p ∧ (z_rg (z_I w p i) → z_G d u 300 1243 ls (z_i (z_I w p i) :: st) w Q)) := z_gun ((zF300_19 1242 (by decide)).trans rfl)
set_option maxRecDepth 100000 in
theorem g300_1243 {d : Nat} {u : Nat × Nat} {ls st : List z_V} {w : z_W} {Q : z_P} {p : Nat} {x0 x1 x2 x3 x4 x5 : Int} : z_G (d + 1) u 300 1243 ls (z_i x5 :: z_i x4 :: z_i x3 :: z_i x2 :: z_i x1 :: z_i x0 :: z_r p :: st) w Q ↔ (z_k w p = 11 ∧ z_c8 st 8 = true ∧ z_G d (0, 0) 153 0 [z_r p, z_i x0, z_i x1, z_i x2, z_i x3, z_i x4, z_i x5] [] w (fun r w' => z_G (d + 1) u 300 1246 ls (r.toList ++ st) w' Q)) := z_gcaV (d := d) (m := 300) (pc := 1243) (m' := 153) (k := 7) (nL := 7) (nx := 1246) (ci := 11) (p := p) (u := u) (ls := ls) (st := st) (w := w) (Q := Q) (vs := [z_r p, z_i x0, z_i x1, z_i x2, z_i x3, z_i x4, z_i x5]) ((zF300_19 1243 (by decide)).trans rfl) rfl rfl
set_option maxRecDepth 100000 in
theorem g300_1246 {d : Nat} {u : Nat × Nat} {ls st : List z_V} {w : z_W} {Q : z_P} {x : Int} : z_G d u 300 1246 ls (z_i x :: st) w Q ↔ z_G d u 300 1247 ls st w Q := z_gun ((zF300_19 1246 (by decide)).trans rfl)
set_option maxRecDepth 100000 in
theorem g300_1246r {d : Nat} {u : Nat × Nat} {ls st : List z_V} {w : z_W} {Q : z_P} {k : Nat} : z_G d u 300 1246 ls (z_r k :: st) w Q ↔ z_G d u 300 1247 ls st w Q := z_gun ((zF300_19 1246 (by decide)).trans rfl)
set_option maxRecDepth 100000 in
theorem g300_1247 {d : Nat} {u : Nat × Nat} {ls st : List z_V} {w : z_W} {Q : z_P} {o : Option Nat} {a0 a1 : z_V} : z_G d u 300 1247 (a0 :: a1 :: z_vr o :: ls) st w Q ↔ z_G d u 300 1248 (a0 :: a1 :: z_vr o :: ls) (z_vr o :: st) w Q := z_gun ((zF300_19 1247 (by decide)).trans rfl)
set_option maxRecDepth 100000 in
theorem g300_1247r {d : Nat} {u : Nat × Nat} {ls st : List z_V} {w : z_W} {Q : z_P} {k : Nat} {a0 a1 : z_V} : z_G d u 300 1247 (a0 :: a1 :: z_r k :: ls) st w Q ↔ z_G d u 300 1248 (a0 :: a1 :: z_r k :: ls) (z_r k :: st) w Q := z_gun ((zF300_19 1247 (by decide)).trans rfl)
set_option maxRecDepth 100000 in
theorem g300_1248 {d : Nat} {u : Nat × Nat} {ls st : List z_V} {w : z_W} {Q : z_P} {o : Option Nat} : z_G d u 300 1248 (z_vr o :: ls) st w Q ↔ z_G d u 300 1249 (z_vr o :: ls) (z_vr o :: st) w Q := z_gun ((zF300_19 1248 (by decide)).trans rfl)
set_option maxRecDepth 100000 in
theorem g300_1248r {d : Nat} {u : Nat × Nat} {ls st : List z_V} {w : z_W} {Q : z_P} {k : Nat} : z_G d u 300 1248 (z_r k :: ls) st w Q ↔ z_G d u 300 1249 (z_r k :: ls) (z_r k :: st) w Q := z_gun ((zF300_19 1248 (by decide)).trans rfl)
set_option maxRecDepth 100000 in
theorem g300_1249 {d : Nat} {u : Nat × Nat} {ls st : List z_V} {w : z_W} {Q : z_P} {z : Int} {a0 a1 a2 a3 : z_V} : z_G d u 300 1249 (a0 :: a1 :: a2 :: a3 :: z_i z :: ls) st w Q ↔ z_G d u 300 1251 (a0 :: a1 :: a2 :: a3 :: z_i z :: ls) (z_i z :: st) w Q := z_gun ((zF300_19 1249 (by decide)).trans rfl)
set_option maxRecDepth 100000 in
theorem g300_1251 {d : Nat} {u : Nat × Nat} {ls st : List z_V} {w : z_W} {Q : z_P} : z_G d u 300 1251 ls st w Q ↔ z_G d u 300 1252 ls (z_i (1) :: st) w Q := z_gun ((zF300_19 1251 (by decide)).trans rfl)
set_option maxRecDepth 100000 in
theorem g300_1252 {d : Nat} {u : Nat × Nat} {ls st : List z_V} {w : z_W} {Q : z_P} {x y : Int} : z_G d u 300 1252 ls (z_i y :: z_i x :: st) w Q ↔ z_G d u 300 1253 ls (z_i (z_add x y) :: st) w Q := z_gun ((zF300_19 1252 (by decide)).trans rfl)
set_option maxRecDepth 100000 in
theorem g300_1253 {d : Nat} {u : Nat × Nat} {ls st : List z_V} {w : z_W} {Q : z_P} {p : Nat} {i : Int} : z_G d u 300 1253 ls (z_i i :: z_r p :: st) w Q ↔ ((z_k w p = 100 ∨ z_k w p = 103) ∧ 0 ≤ i ∧ i < z_len w p ∧ (z_rg (z_I w p i) → z_G d u 300 1254 ls (z_i (z_I w p i) :: st) w Q)) := z_gun ((zF300_19 1253 (by decide)).trans rfl)
set_option maxRecDepth 100000 in
theorem g300_1254 {d : Nat} {u : Nat × Nat} {ls st : List z_V} {w : z_W} {Q : z_P} {o : Option Nat} : z_G d u 300 1254 (z_vr o :: ls) st w Q ↔ z_G d u 300 1255 (z_vr o :: ls) (z_vr o :: st) w Q := z_gun ((zF300_19 1254 (by decide)).trans rfl)
set_option maxRecDepth 100000 in
theorem g300_1254r {d : Nat} {u : Nat × Nat} {ls st : List z_V} {w : z_W} {Q : z_P} {k : Nat} : z_G d u 300 1254 (z_r k :: ls) st w Q ↔ z_G d u 300 1255 (z_r k :: ls) (z_r k :: st) w Q := z_gun ((zF300_19 1254 (by decide)).trans rfl)
set_option maxRecDepth 100000 in
theorem g300_1255 {d : Nat} {u : Nat × Nat} {ls st : List z_V} {w : z_W} {Q : z_P} {z : Int} {a0 a1 a2 a3 : z_V} : z_G d u 300 1255 (a0 :: a1 :: a2 :: a3 :: z_i z :: ls) st w Q ↔ z_G d u 300 1257 (a0 :: a1 :: a2 :: a3 :: z_i z :: ls) (z_i z :: st) w Q := z_gun ((zF300_19 1255 (by decide)).trans rfl)
set_option maxRecDepth 100000 in
theorem g300_1257 {d : Nat} {u : Nat × Nat} {ls st : List z_V} {w : z_W} {Q : z_P} : z_G d u 300 1257 ls st w Q ↔ z_G d u 300 1258 ls (z_i (2) :: st) w Q := z_gun ((zF300_19 1257 (by decide)).trans rfl)
set_option maxRecDepth 100000 in
theorem g300_1258 {d : Nat} {u : Nat × Nat} {ls st : List z_V} {w : z_W} {Q : z_P} {x y : Int} : z_G d u 300 1258 ls (z_i y :: z_i x :: st) w Q ↔ z_G d u 300 1259 ls (z_i (z_add x y) :: st) w Q := z_gun ((zF300_19 1258 (by decide)).trans rfl)
set_option maxRecDepth 100000 in
theorem g300_1259 {d : Nat} {u : Nat × Nat} {ls st : List z_V} {w : z_W} {Q : z_P} {p : Nat} {i : Int} : z_G d u 300 1259 ls (z_i i :: z_r p :: st) w Q ↔ ((z_k w p = 100 ∨ z_k w p = 103) ∧ 0 ≤ i ∧ i < z_len w p ∧ (z_rg (z_I w p i) → z_G d u 300 1260 ls (z_i (z_I w p i) :: st) w Q)) := z_gun ((zF300_19 1259 (by decide)).trans rfl)
set_option maxRecDepth 100000 in
theorem g300_1260 {d : Nat} {u : Nat × Nat} {ls st : List z_V} {w : z_W} {Q : z_P} {o : Option Nat} : z_G d u 300 1260 (z_vr o :: ls) st w Q ↔ z_G d u 300 1261 (z_vr o :: ls) (z_vr o :: st) w Q := z_gun ((zF300_19 1260 (by decide)).trans rfl)
set_option maxRecDepth 100000 in
theorem g300_1260r {d : Nat} {u : Nat × Nat} {ls st : List z_V} {w : z_W} {Q : z_P} {k : Nat} : z_G d u 300 1260 (z_r k :: ls) st w Q ↔ z_G d u 300 1261 (z_r k :: ls) (z_r k :: st) w Q := z_gun ((zF300_19 1260 (by decide)).trans rfl)
set_option maxRecDepth 100000 in
theorem g300_1261 {d : Nat} {u : Nat × Nat} {ls st : List z_V} {w : z_W} {Q : z_P} {z : Int} {a0 a1 a2 a3 : z_V} : z_G d u 300 1261 (a0 :: a1 :: a2 :: a3 :: z_i z :: ls) st w Q ↔ z_G d u 300 1263 (a0 :: a1 :: a2 :: a3 :: z_i z :: ls) (z_i z :: st) w Q := z_gun ((zF300_19 1261 (by decide)).trans rfl)
set_option maxRecDepth 100000 in
theorem g300_1263 {d : Nat} {u : Nat × Nat} {ls st : List z_V} {w : z_W} {Q : z_P} : z_G d u 300 1263 ls st w Q ↔ z_G d u 300 1264 ls (z_i (3) :: st) w Q := z_gun ((zF300_19 1263 (by decide)).trans rfl)
set_option maxRecDepth 100000 in
theorem g300_1264 {d : Nat} {u : Nat × Nat} {ls st : List z_V} {w : z_W} {Q : z_P} {x y : Int} : z_G d u 300 1264 ls (z_i y :: z_i x :: st) w Q ↔ z_G d u 300 1265 ls (z_i (z_add x y) :: st) w Q := z_gun ((zF300_19 1264 (by decide)).trans rfl)
set_option maxRecDepth 100000 in
theorem g300_1265 {d : Nat} {u : Nat × Nat} {ls st : List z_V} {w : z_W} {Q : z_P} {p : Nat} {i : Int} : z_G d u 300 1265 ls (z_i i :: z_r p :: st) w Q ↔ ((z_k w p = 100 ∨ z_k w p = 103) ∧ 0 ≤ i ∧ i < z_len w p ∧ (z_rg (z_I w p i) → z_G d u 300 1266 ls (z_i (z_I w p i) :: st) w Q)) := z_gun ((zF300_19 1265 (by decide)).trans rfl)
set_option maxRecDepth 100000 in
theorem g300_1266 {d : Nat} {u : Nat × Nat} {ls st : List z_V} {w : z_W} {Q : z_P} {o : Option Nat} : z_G d u 300 1266 (z_vr o :: ls) st w Q ↔ z_G d u 300 1267 (z_vr o :: ls) (z_vr o :: st) w Q := z_gun ((zF300_19 1266 (by decide)).trans rfl)
set_option maxRecDepth 100000 in
theorem g300_1266r {d : Nat} {u : Nat × Nat} {ls st : List z_V} {w : z_W} {Q : z_P} {k : Nat} : z_G d u 300 1266 (z_r k :: ls) st w Q ↔ z_G d u 300 1267 (z_r k :: ls) (z_r k :: st) w Q := z_gun ((zF300_19 1266 (by decide)).trans rfl)
set_option maxRecDepth 100000 in
theorem g300_1267 {d : Nat} {u : Nat × Nat} {ls st : List z_V} {w : z_W} {Q : z_P} {z : Int} {a0 a1 a2 a3 : z_V} : z_G d u 300 1267 (a0 :: a1 :: a2 :: a3 :: z_i z :: ls) st w Q ↔ z_G d u 300 1269 (a0 :: a1 :: a2 :: a3 :: z_i z :: ls) (z_i z :: st) w Q := z_gun ((zF300_19 1267 (by decide)).trans rfl)
set_option maxRecDepth 100000 in
theorem g300_1269 {d : Nat} {u : Nat × Nat} {ls st : List z_V} {w : z_W} {Q : z_P} : z_G d u 300 1269 ls st w Q ↔ z_G d u 300 1270 ls (z_i (4) :: st) w Q := z_gun ((zF300_20 1269 (by decide)).trans rfl)
set_option maxRecDepth 100000 in
theorem g300_1270 {d : Nat} {u : Nat × Nat} {ls st : List z_V} {w : z_W} {Q : z_P} {x y : Int} : z_G d u 300 1270 ls (z_i y :: z_i x :: st) w Q ↔ z_G d u 300 1271 ls (z_i (z_add x y) :: st) w Q := z_gun ((zF300_20 1270 (by decide)).trans rfl)
set_option maxRecDepth 100000 in
theorem g300_1271 {d : Nat} {u : Nat × Nat} {ls st : List z_V} {w : z_W} {Q : z_P} {p : Nat} {i : Int} : z_G d u 300 1271 ls (z_i i :: z_r p :: st) w Q ↔ ((z_k w p = 100 ∨ z_k w p = 103) ∧ 0 ≤ i ∧ i < z_len w p ∧ (z_rg (z_I w p i) → z_G d u 300 1272 ls (z_i (z_I w p i) :: st) w Q)) := z_gun ((zF300_20 1271 (by decide)).trans rfl)
set_option maxRecDepth 100000 in
theorem g300_1272 {d : Nat} {u : Nat × Nat} {ls st : List z_V} {w : z_W} {Q : z_P} {o : Option Nat} : z_G d u 300 1272 (z_vr o :: ls) st w Q ↔ z_G d u 300 1273 (z_vr o :: ls) (z_vr o :: st) w Q := z_gun ((zF300_20 1272 (by decide)).trans rfl)
set_option maxRecDepth 100000 in
theorem g300_1272r {d : Nat} {u : Nat × Nat} {ls st : List z_V} {w : z_W} {Q : z_P} {k : Nat} : z_G d u 300 1272 (z_r k :: ls) st w Q ↔ z_G d u 300 1273 (z_r k :: ls) (z_r k :: st) w Q := z_gun ((zF300_20 1272 (by decide)).trans rfl)
set_option maxRecDepth 100000 in
theorem g300_1273 {d : Nat} {u : Nat × Nat} {ls st : List z_V} {w : z_W} {Q : z_P} {z : Int} {a0 a1 a2 a3 : z_V} : z_G d u 300 1273 (a0 :: a1 :: a2 :: a3 :: z_i z :: ls) st w Q ↔ z_G d u 300 1275 (a0 :: a1 :: a2 :: a3 :: z_i z :: ls) (z_i z :: st) w Q := z_gun ((zF300_20 1273 (by decide)).trans rfl)
set_option maxRecDepth 100000 in
theorem g300_1275 {d : Nat} {u : Nat × Nat} {ls st : List z_V} {w : z_W} {Q : z_P} : z_G d u 300 1275 ls st w Q ↔ z_G d u 300 1276 ls (z_i (5) :: st) w Q := z_gun ((zF300_20 1275 (by decide)).trans rfl)
set_option maxRecDepth 100000 in
theorem g300_1276 {d : Nat} {u : Nat × Nat} {ls st : List z_V} {w : z_W} {Q : z_P} {x y : Int} : z_G d u 300 1276 ls (z_i y :: z_i x :: st) w Q ↔ z_G d u 300 1277 ls (z_i (z_add x y) :: st) w Q := z_gun ((zF300_20 1276 (by decide)).trans rfl)
set_option maxRecDepth 100000 in
theorem g300_1277 {d : Nat} {u : Nat × Nat} {ls st : List z_V} {w : z_W} {Q : z_P} {p : Nat} {i : Int} : z_G d u 300 1277 ls (z_i i :: z_r p :: st) w Q ↔ ((z_k w p = 100 ∨ z_k w p = 103) ∧ 0 ≤ i ∧ i < z_len w p ∧ (z_rg (z_I w p i) → z_G d u 300 1278 ls (z_i (z_I w p i) :: st) w Q)) := z_gun ((zF300_20 1277 (by decide)).trans rfl)
set_option maxRecDepth 100000 in
theorem g300_1278 {d : Nat} {u : Nat × Nat} {ls st : List z_V} {w : z_W} {Q : z_P} {o : Option Nat} : z_G d u 300 1278 (z_vr o :: ls) st w Q ↔ z_G d u 300 1279 (z_vr o :: ls) (z_vr o :: st) w Q := z_gun ((zF300_20 1278 (by decide)).trans rfl)
set_option maxRecDepth 100000 in
theorem g300_1278r {d : Nat} {u : Nat × Nat} {ls st : List z_V} {w : z_W} {Q : z_P} {k : Nat} : z_G d u 300 1278 (z_r k :: ls) st w Q ↔ z_G d u 300 1279 (z_r k :: ls) (z_r k :: st) w Q := z_gun ((zF300_20 1278 (by decide)).trans rfl)
set_option maxRecDepth 100000 in
theorem g300_1279 {d : Nat} {u : Nat × Nat} {ls st : List z_V} {w : z_W} {Q : z_P} {z : Int} {a0 a1 a2 a3 : z_V} : z_G d u 300 1279 (a0 :: a1 :: a2 :: a3 :: z_i z :: ls) st w Q ↔ z_G d u 300 1281 (a0 :: a1 :: a2 :: a3 :: z_i z :: ls) (z_i z :: st) w Q := z_gun ((zF300_20 1279 (by decide)).trans rfl)
set_option maxRecDepth 100000 in
theorem g300_1281 {d : Nat} {u : Nat × Nat} {ls st : List z_V} {w : z_W} {Q : z_P} : z_G d u 300 1281 ls st w Q ↔ z_G d u 300 1283 ls (z_i (6) :: st) w Q := z_gun ((zF300_20 1281 (by decide)).trans rfl)
set_option maxRecDepth 100000 in
theorem g300_1283 {d : Nat} {u : Nat × Nat} {ls st : List z_V} {w : z_W} {Q : z_P} {x y : Int} : z_G d u 300 1283 ls (z_i y :: z_i x :: st) w Q ↔ z_G d u 300 1284 ls (z_i (z_add x y) :: st) w Q := z_gun ((zF300_20 1283 (by decide)).trans rfl)
set_option maxRecDepth 100000 in
theorem g300_1284 {d : Nat} {u : Nat × Nat} {ls st : List z_V} {w : z_W} {Q : z_P} {p : Nat} {i : Int} : z_G d u 300 1284 ls (z_i i :: z_r p :: st) w Q ↔ ((z_k w p = 100 ∨ z_k w p = 103) ∧ 0 ≤ i ∧ i < z_len w p ∧ (z_rg (z_I w p i) → z_G d u 300 1285 ls (z_i (z_I w p i) :: st) w Q)) := z_gun ((zF300_20 1284 (by decide)).trans rfl)
set_option maxRecDepth 100000 in
theorem g300_1285 {d : Nat} {u : Nat × Nat} {ls st : List z_V} {w : z_W} {Q : z_P} {p : Nat} {x0 x1 x2 x3 x4 x5 : Int} : z_G (d + 1) u 300 1285 ls (z_i x5 :: z_i x4 :: z_i x3 :: z_i x2 :: z_i x1 :: z_i x0 :: z_r p :: st) w Q ↔ (z_k w p = 12 ∧ z_c8 st 8 = true ∧ z_G d (0, 0) 274 0 [z_r p, z_i x0, z_i x1, z_i x2, z_i x3, z_i x4, z_i x5, z_x] [] w (fun r w' => z_G (d + 1) u 300 1288 ls (r.toList ++ st) w' Q)) := z_gcaV (d := d) (m := 300) (pc := 1285) (m' := 274) (k := 7) (nL := 8) (nx := 1288) (ci := 12) (p := p) (u := u) (ls := ls) (st := st) (w := w) (Q := Q) (vs := [z_r p, z_i x0, z_i x1, z_i x2, z_i x3, z_i x4, z_i x5]) ((zF300_20 1285 (by decide)).trans rfl) rfl rfl
set_option maxRecDepth 100000 in
theorem g300_1288 {d : Nat} {u : Nat × Nat} {ls st : List z_V} {w : z_W} {Q : z_P} {x : Int} : z_G d u 300 1288 ls (z_i x :: st) w Q ↔ z_G d u 300 1289 ls st w Q := z_gun ((zF300_20 1288 (by decide)).trans rfl)
set_option maxRecDepth 100000 in
theorem g300_1288r {d : Nat} {u : Nat × Nat} {ls st : List z_V} {w : z_W} {Q : z_P} {k : Nat} : z_G d u 300 1288 ls (z_r k :: st) w Q ↔ z_G d u 300 1289 ls st w Q := z_gun ((zF300_20 1288 (by decide)).trans rfl)
set_option maxRecDepth 100000 in
theorem g300_1289 {d : Nat} {u : Nat × Nat} {ls st : List z_V} {w : z_W} {Q : z_P} : z_G d u 300 1289 ls st w Q ↔ z_G d u 300 1614 ls st w Q := z_gun ((zF300_20 1289 (by decide)).trans rfl)
set_option maxRecDepth 100000 in
theorem g300_1292 {d : Nat} {u : Nat × Nat} {ls st : List z_V} {w : z_W} {Q : z_P} {o : Option Nat} {a0 : z_V} : z_G d u 300 1292 (a0 :: z_vr o :: ls) st w Q ↔ z_G d u 300 1293 (a0 :: z_vr o :: ls) (z_vr o :: st) w Q := z_gun ((zF300_20 1292 (by decide)).trans rfl)
set_option maxRecDepth 100000 in
theorem g300_1292r {d : Nat} {u : Nat × Nat} {ls st : List z_V} {w : z_W} {Q : z_P} {k : Nat} {a0 : z_V} : z_G d u 300 1292 (a0 :: z_r k :: ls) st w Q ↔ z_G d u 300 1293 (a0 :: z_r k :: ls) (z_r k :: st) w Q := z_gun ((zF300_20 1292 (by decide)).trans rfl)
set_option maxRecDepth 100000 in
theorem g300_1293 {d : Nat} {u : Nat × Nat} {ls st : List z_V} {w : z_W} {Q : z_P} {o : Option Nat} : z_G d u 300 1293 (z_vr o :: ls) st w Q ↔ z_G d u 300 1294 (z_vr o :: ls) (z_vr o :: st) w Q := z_gun ((zF300_20 1293 (by decide)).trans rfl)
set_option maxRecDepth 100000 in
theorem g300_1293r {d : Nat} {u : Nat × Nat} {ls st : List z_V} {w : z_W} {Q : z_P} {k : Nat} : z_G d u 300 1293 (z_r k :: ls) st w Q ↔ z_G d u 300 1294 (z_r k :: ls) (z_r k :: st) w Q := z_gun ((zF300_20 1293 (by decide)).trans rfl)
set_option maxRecDepth 100000 in
theorem g300_1294 {d : Nat} {u : Nat × Nat} {ls st : List z_V} {w : z_W} {Q : z_P} {z : Int} {a0 a1 a2 a3 : z_V} : z_G d u 300 1294 (a0 :: a1 :: a2 :: a3 :: z_i z :: ls) st w Q ↔ z_G d u 300 1296 (a0 :: a1 :: a2 :: a3 :: z_i z :: ls) (z_i z :: st) w Q := z_gun ((zF300_20 1294 (by decide)).trans rfl)
set_option maxRecDepth 100000 in
theorem g300_1296 {d : Nat} {u : Nat × Nat} {ls st : List z_V} {w : z_W} {Q : z_P} : z_G d u 300 1296 ls st w Q ↔ z_G d u 300 1297 ls (z_i (1) :: st) w Q := z_gun ((zF300_20 1296 (by decide)).trans rfl)
set_option maxRecDepth 100000 in
theorem g300_1297 {d : Nat} {u : Nat × Nat} {ls st : List z_V} {w : z_W} {Q : z_P} {x y : Int} : z_G d u 300 1297 ls (z_i y :: z_i x :: st) w Q ↔ z_G d u 300 1298 ls (z_i (z_add x y) :: st) w Q := z_gun ((zF300_20 1297 (by decide)).trans rfl)
set_option maxRecDepth 100000 in
theorem g300_1298 {d : Nat} {u : Nat × Nat} {ls st : List z_V} {w : z_W} {Q : z_P} {p : Nat} {i : Int} : z_G d u 300 1298 ls (z_i i :: z_r p :: st) w Q ↔ ((z_k w p = 100 ∨ z_k w p = 103) ∧ 0 ≤ i ∧ i < z_len w p ∧ (z_rg (z_I w p i) → z_G d u 300 1299 ls (z_i (z_I w p i) :: st) w Q)) := z_gun ((zF300_20 1298 (by decide)).trans rfl)
set_option maxRecDepth 100000 in
theorem g300_1299 {d : Nat} {u : Nat × Nat} {ls st : List z_V} {w : z_W} {Q : z_P} {o : Option Nat} : z_G d u 300 1299 (z_vr o :: ls) st w Q ↔ z_G d u 300 1300 (z_vr o :: ls) (z_vr o :: st) w Q := z_gun ((zF300_20 1299 (by decide)).trans rfl)
set_option maxRecDepth 100000 in
theorem g300_1299r {d : Nat} {u : Nat × Nat} {ls st : List z_V} {w : z_W} {Q : z_P} {k : Nat} : z_G d u 300 1299 (z_r k :: ls) st w Q ↔ z_G d u 300 1300 (z_r k :: ls) (z_r k :: st) w Q := z_gun ((zF300_20 1299 (by decide)).trans rfl)
set_option maxRecDepth 100000 in
theorem g300_1300 {d : Nat} {u : Nat × Nat} {ls st : List z_V} {w : z_W} {Q : z_P} {z : Int} {a0 a1 a2 a3 : z_V} : z_G d u 300 1300 (a0 :: a1 :: a2 :: a3 :: z_i z :: ls) st w Q ↔ z_G d u 300 1302 (a0 :: a1 :: a2 :: a3 :: z_i z :: ls) (z_i z :: st) w Q := z_gun ((zF300_20 1300 (by decide)).trans rfl)
set_option maxRecDepth 100000 in
theorem g300_1302 {d : Nat} {u : Nat × Nat} {ls st : List z_V} {w : z_W} {Q : z_P} : z_G d u 300 1302 ls st w Q ↔ z_G d u 300 1303 ls (z_i (2) :: st) w Q := z_gun ((zF300_20 1302 (by decide)).trans rfl)
set_option maxRecDepth 100000 in
theorem g300_1303 {d : Nat} {u : Nat × Nat} {ls st : List z_V} {w : z_W} {Q : z_P} {x y : Int} : z_G d u 300 1303 ls (z_i y :: z_i x :: st) w Q ↔ z_G d u 300 1304 ls (z_i (z_add x y) :: st) w Q := z_gun ((zF300_20 1303 (by decide)).trans rfl)
set_option maxRecDepth 100000 in
theorem g300_1304 {d : Nat} {u : Nat × Nat} {ls st : List z_V} {w : z_W} {Q : z_P} {p : Nat} {i : Int} : z_G d u 300 1304 ls (z_i i :: z_r p :: st) w Q ↔ ((z_k w p = 100 ∨ z_k w p = 103) ∧ 0 ≤ i ∧ i < z_len w p ∧ (z_rg (z_I w p i) → z_G d u 300 1305 ls (z_i (z_I w p i) :: st) w Q)) := z_gun ((zF300_20 1304 (by decide)).trans rfl)
set_option maxRecDepth 100000 in
theorem g300_1305 {d : Nat} {u : Nat × Nat} {ls st : List z_V} {w : z_W} {Q : z_P} {o : Option Nat} : z_G d u 300 1305 (z_vr o :: ls) st w Q ↔ z_G d u 300 1306 (z_vr o :: ls) (z_vr o :: st) w Q := z_gun ((zF300_20 1305 (by decide)).trans rfl)
set_option maxRecDepth 100000 in
theorem g300_1305r {d : Nat} {u : Nat × Nat} {ls st : List z_V} {w : z_W} {Q : z_P} {k : Nat} : z_G d u 300 1305 (z_r k :: ls) st w Q ↔ z_G d u 300 1306 (z_r k :: ls) (z_r k :: st) w Q := z_gun ((zF300_20 1305 (by decide)).trans rfl)
set_option maxRecDepth 100000 in
theorem g300_1306 {d : Nat} {u : Nat × Nat} {ls st : List z_V} {w : z_W} {Q : z_P} {z : Int} {a0 a1 a2 a3 : z_V} : z_G d u 300 1306 (a0 :: a1 :: a2 :: a3 :: z_i z :: ls) st w Q ↔ z_G d u 300 1308 (a0 :: a1 :: a2 :: a3 :: z_i z :: ls) (z_i z :: st) w Q := z_gun ((zF300_20 1306 (by decide)).trans rfl)
set_option maxRecDepth 100000 in
theorem g300_1308 {d : Nat} {u : Nat × Nat} {ls st : List z_V} {w : z_W} {Q : z_P} : z_G d u 300 1308 ls st w Q ↔ z_G d u 300 1309 ls (z_i (3) :: st) w Q := z_gun ((zF300_20 1308 (by decide)).trans rfl)
set_option maxRecDepth 100000 in
theorem g300_1309 {d : Nat} {u : Nat × Nat} {ls st : List z_V} {w : z_W} {Q : z_P} {x y : Int} : z_G d u 300 1309 ls (z_i y :: z_i x :: st) w Q ↔ z_G d u 300 1310 ls (z_i (z_add x y) :: st) w Q := z_gun ((zF300_20 1309 (by decide)).trans rfl)
set_option maxRecDepth 100000 in
theorem g300_1310 {d : Nat} {u : Nat × Nat} {ls st : List z_V} {w : z_W} {Q : z_P} {p : Nat} {i : Int} : z_G d u 300 1310 ls (z_i i :: z_r p :: st) w Q ↔ ((z_k w p = 100 ∨ z_k w p = 103) ∧ 0 ≤ i ∧ i < z_len w p ∧ (z_rg (z_I w p i) → z_G d u 300 1311 ls (z_i (z_I w p i) :: st) w Q)) := z_gun ((zF300_20 1310 (by decide)).trans rfl)
set_option maxRecDepth 100000 in
theorem g300_1311 {d : Nat} {u : Nat × Nat} {ls st : List z_V} {w : z_W} {Q : z_P} {o : Option Nat} : z_G d u 300 1311 (z_vr o :: ls) st w Q ↔ z_G d u 300 1312 (z_vr o :: ls) (z_vr o :: st) w Q := z_gun ((zF300_20 1311 (by decide)).trans rfl)
set_option maxRecDepth 100000 in
theorem g300_1311r {d : Nat} {u : Nat × Nat} {ls st : List z_V} {w : z_W} {Q : z_P} {k : Nat} : z_G d u 300 1311 (z_r k :: ls) st w Q ↔ z_G d u 300 1312 (z_r k :: ls) (z_r k :: st) w Q := z_gun ((zF300_20 1311 (by decide)).trans rfl)
set_option maxRecDepth 100000 in
theorem g300_1312 {d : Nat} {u : Nat × Nat} {ls st : List z_V} {w : z_W} {Q : z_P} {z : Int} {a0 a1 a2 a3 : z_V} : z_G d u 300 1312 (a0 :: a1 :: a2 :: a3 :: z_i z :: ls) st w Q ↔ z_G d u 300 1314 (a0 :: a1 :: a2 :: a3 :: z_i z :: ls) (z_i z :: st) w Q := z_gun ((zF300_20 1312 (by decide)).trans rfl)
set_option maxRecDepth 100000 in
theorem g300_1314 {d : Nat} {u : Nat × Nat} {ls st : List z_V} {w : z_W} {Q : z_P} : z_G d u 300 1314 ls st w Q ↔ z_G d u 300 1315 ls (z_i (4) :: st) w Q := z_gun ((zF300_20 1314 (by decide)).trans rfl)
set_option maxRecDepth 100000 in
theorem g300_1315 {d : Nat} {u : Nat × Nat} {ls st : List z_V} {w : z_W} {Q : z_P} {x y : Int} : z_G d u 300 1315 ls (z_i y :: z_i x :: st) w Q ↔ z_G d u 300 1316 ls (z_i (z_add x y) :: st) w Q := z_gun ((zF300_20 1315 (by decide)).trans rfl)
set_option maxRecDepth 100000 in
theorem g300_1316 {d : Nat} {u : Nat × Nat} {ls st : List z_V} {w : z_W} {Q : z_P} {p : Nat} {i : Int} : z_G d u 300 1316 ls (z_i i :: z_r p :: st) w Q ↔ ((z_k w p = 100 ∨ z_k w p = 103) ∧ 0 ≤ i ∧ i < z_len w p ∧ (z_rg (z_I w p i) → z_G d u 300 1317 ls (z_i (z_I w p i) :: st) w Q)) := z_gun ((zF300_20 1316 (by decide)).trans rfl)
set_option maxRecDepth 100000 in
theorem g300_1317 {d : Nat} {u : Nat × Nat} {ls st : List z_V} {w : z_W} {Q : z_P} {p : Nat} {x0 x1 x2 x3 : Int} : z_G (d + 1) u 300 1317 ls (z_i x3 :: z_i x2 :: z_i x1 :: z_i x0 :: z_r p :: st) w Q ↔ (z_k w p = 11 ∧ z_c8 st 8 = true ∧ z_G d (0, 0) 154 0 [z_r p, z_i x0, z_i x1, z_i x2, z_i x3] [] w (fun r w' => z_G (d + 1) u 300 1320 ls (r.toList ++ st) w' Q)) := z_gcaV (d := d) (m := 300) (pc := 1317) (m' := 154) (k := 5) (nL := 5) (nx := 1320) (ci := 11) (p := p) (u := u) (ls := ls) (st := st) (w := w) (Q := Q) (vs := [z_r p, z_i x0, z_i x1, z_i x2, z_i x3]) ((zF300_20 1317 (by decide)).trans rfl) rfl rfl
set_option maxRecDepth 100000 in
theorem g300_1320 {d : Nat} {u : Nat × Nat} {ls st : List z_V} {w : z_W} {Q : z_P} {x : Int} : z_G d u 300 1320 ls (z_i x :: st) w Q ↔ z_G d u 300 1321 ls st w Q := z_gun ((zF300_20 1320 (by decide)).trans rfl)
set_option maxRecDepth 100000 in
theorem g300_1320r {d : Nat} {u : Nat × Nat} {ls st : List z_V} {w : z_W} {Q : z_P} {k : Nat} : z_G d u 300 1320 ls (z_r k :: st) w Q ↔ z_G d u 300 1321 ls st w Q := z_gun ((zF300_20 1320 (by decide)).trans rfl)
set_option maxRecDepth 100000 in
theorem g300_1321 {d : Nat} {u : Nat × Nat} {ls st : List z_V} {w : z_W} {Q : z_P} {o : Option Nat} {a0 a1 : z_V} : z_G d u 300 1321 (a0 :: a1 :: z_vr o :: ls) st w Q ↔ z_G d u 300 1322 (a0 :: a1 :: z_vr o :: ls) (z_vr o :: st) w Q := z_gun ((zF300_20 1321 (by decide)).trans rfl)
set_option maxRecDepth 100000 in
theorem g300_1321r {d : Nat} {u : Nat × Nat} {ls st : List z_V} {w : z_W} {Q : z_P} {k : Nat} {a0 a1 : z_V} : z_G d u 300 1321 (a0 :: a1 :: z_r k :: ls) st w Q ↔ z_G d u 300 1322 (a0 :: a1 :: z_r k :: ls) (z_r k :: st) w Q := z_gun ((zF300_20 1321 (by decide)).trans rfl)
set_option maxRecDepth 100000 in
theorem g300_1322 {d : Nat} {u : Nat × Nat} {ls st : List z_V} {w : z_W} {Q : z_P} {o : Option Nat} : z_G d u 300 1322 (z_vr o :: ls) st w Q ↔ z_G d u 300 1323 (z_vr o :: ls) (z_vr o :: st) w Q := z_gun ((zF300_21 1322 (by decide)).trans rfl)
set_option maxRecDepth 100000 in
theorem g300_1322r {d : Nat} {u : Nat × Nat} {ls st : List z_V} {w : z_W} {Q : z_P} {k : Nat} : z_G d u 300 1322 (z_r k :: ls) st w Q ↔ z_G d u 300 1323 (z_r k :: ls) (z_r k :: st) w Q := z_gun ((zF300_21 1322 (by decide)).trans rfl)
set_option maxRecDepth 100000 in
theorem g300_1323 {d : Nat} {u : Nat × Nat} {ls st : List z_V} {w : z_W} {Q : z_P} {z : Int} {a0 a1 a2 a3 : z_V} : z_G d u 300 1323 (a0 :: a1 :: a2 :: a3 :: z_i z :: ls) st w Q ↔ z_G d u 300 1325 (a0 :: a1 :: a2 :: a3 :: z_i z :: ls) (z_i z :: st) w Q := z_gun ((zF300_21 1323 (by decide)).trans rfl)
set_option maxRecDepth 100000 in
theorem g300_1325 {d : Nat} {u : Nat × Nat} {ls st : List z_V} {w : z_W} {Q : z_P} : z_G d u 300 1325 ls st w Q ↔ z_G d u 300 1326 ls (z_i (1) :: st) w Q := z_gun ((zF300_21 1325 (by decide)).trans rfl)
set_option maxRecDepth 100000 in
theorem g300_1326 {d : Nat} {u : Nat × Nat} {ls st : List z_V} {w : z_W} {Q : z_P} {x y : Int} : z_G d u 300 1326 ls (z_i y :: z_i x :: st) w Q ↔ z_G d u 300 1327 ls (z_i (z_add x y) :: st) w Q := z_gun ((zF300_21 1326 (by decide)).trans rfl)
set_option maxRecDepth 100000 in
theorem g300_1327 {d : Nat} {u : Nat × Nat} {ls st : List z_V} {w : z_W} {Q : z_P} {p : Nat} {i : Int} : z_G d u 300 1327 ls (z_i i :: z_r p :: st) w Q ↔ ((z_k w p = 100 ∨ z_k w p = 103) ∧ 0 ≤ i ∧ i < z_len w p ∧ (z_rg (z_I w p i) → z_G d u 300 1328 ls (z_i (z_I w p i) :: st) w Q)) := z_gun ((zF300_21 1327 (by decide)).trans rfl)
set_option maxRecDepth 100000 in
theorem g300_1328 {d : Nat} {u : Nat × Nat} {ls st : List z_V} {w : z_W} {Q : z_P} {o : Option Nat} : z_G d u 300 1328 (z_vr o :: ls) st w Q ↔ z_G d u 300 1329 (z_vr o :: ls) (z_vr o :: st) w Q := z_gun ((zF300_21 1328 (by decide)).trans rfl)
set_option maxRecDepth 100000 in
theorem g300_1328r {d : Nat} {u : Nat × Nat} {ls st : List z_V} {w : z_W} {Q : z_P} {k : Nat} : z_G d u 300 1328 (z_r k :: ls) st w Q ↔ z_G d u 300 1329 (z_r k :: ls) (z_r k :: st) w Q := z_gun ((zF300_21 1328 (by decide)).trans rfl)
set_option maxRecDepth 100000 in
theorem g300_1329 {d : Nat} {u : Nat × Nat} {ls st : List z_V} {w : z_W} {Q : z_P} {z : Int} {a0 a1 a2 a3 : z_V} : z_G d u 300 1329 (a0 :: a1 :: a2 :: a3 :: z_i z :: ls) st w Q ↔ z_G d u 300 1331 (a0 :: a1 :: a2 :: a3 :: z_i z :: ls) (z_i z :: st) w Q := z_gun ((zF300_21 1329 (by decide)).trans rfl)
set_option maxRecDepth 100000 in
theorem g300_1331 {d : Nat} {u : Nat × Nat} {ls st : List z_V} {w : z_W} {Q : z_P} : z_G d u 300 1331 ls st w Q ↔ z_G d u 300 1332 ls (z_i (2) :: st) w Q := z_gun ((zF300_21 1331 (by decide)).trans rfl)
set_option maxRecDepth 100000 in
theorem g300_1332 {d : Nat} {u : Nat × Nat} {ls st : List z_V} {w : z_W} {Q : z_P} {x y : Int} : z_G d u 300 1332 ls (z_i y :: z_i x :: st) w Q ↔ z_G d u 300 1333 ls (z_i (z_add x y) :: st) w Q := z_gun ((zF300_21 1332 (by decide)).trans rfl)
set_option maxRecDepth 100000 in
theorem g300_1333 {d : Nat} {u : Nat × Nat} {ls st : List z_V} {w : z_W} {Q : z_P} {p : Nat} {i : Int} : z_G d u 300 1333 ls (z_i i :: z_r p :: st) w Q ↔ ((z_k w p = 100 ∨ z_k w p = 103) ∧ 0 ≤ i ∧ i < z_len w p ∧ (z_rg (z_I w p i) → z_G d u 300 1334 ls (z_i (z_I w p i) :: st) w Q)) := z_gun ((zF300_21 1333 (by decide)).trans rfl)
set_option maxRecDepth 100000 in
theorem g300_1334 {d : Nat} {u : Nat × Nat} {ls st : List z_V} {w : z_W} {Q : z_P} {o : Option Nat} : z_G d u 300 1334 (z_vr o :: ls) st w Q ↔ z_G d u 300 1335 (z_vr o :: ls) (z_vr o :: st) w Q := z_gun ((zF300_21 1334 (by decide)).trans rfl)
set_option maxRecDepth 100000 in
theorem g300_1334r {d : Nat} {u : Nat × Nat} {ls st : List z_V} {w : z_W} {Q : z_P} {k : Nat} : z_G d u 300 1334 (z_r k :: ls) st w Q ↔ z_G d u 300 1335 (z_r k :: ls) (z_r k :: st) w Q := z_gun ((zF300_21 1334 (by decide)).trans rfl)
set_option maxRecDepth 100000 in
theorem g300_1335 {d : Nat} {u : Nat × Nat} {ls st : List z_V} {w : z_W} {Q : z_P} {z : Int} {a0 a1 a2 a3 : z_V} : z_G d u 300 1335 (a0 :: a1 :: a2 :: a3 :: z_i z :: ls) st w Q ↔ z_G d u 300 1337 (a0 :: a1 :: a2 :: a3 :: z_i z :: ls) (z_i z :: st) w Q := z_gun ((zF300_21 1335 (by decide)).trans rfl)
set_option maxRecDepth 100000 in
theorem g300_1337 {d : Nat} {u : Nat × Nat} {ls st : List z_V} {w : z_W} {Q : z_P} : z_G d u 300 1337 ls st w Q ↔ z_G d u 300 1338 ls (z_i (3) :: st) w Q := z_gun ((zF300_21 1337 (by decide)).trans rfl)
set_option maxRecDepth 100000 in
theorem g300_1338 {d : Nat} {u : Nat × Nat} {ls st : List z_V} {w : z_W} {Q : z_P} {x y : Int} : z_G d u 300 1338 ls (z_i y :: z_i x :: st) w Q ↔ z_G d u 300 1339 ls (z_i (z_add x y) :: st) w Q := z_gun ((zF300_21 1338 (by decide)).trans rfl)
set_option maxRecDepth 100000 in
theorem g300_1339 {d : Nat} {u : Nat × Nat} {ls st : List z_V} {w : z_W} {Q : z_P} {p : Nat} {i : Int} : z_G d u 300 1339 ls (z_i i :: z_r p :: st) w Q ↔ ((z_k w p = 100 ∨ z_k w p = 103) ∧ 0 ≤ i ∧ i < z_len w p ∧ (z_rg (z_I w p i) → z_G d u 300 1340 ls (z_i (z_I w p i) :: st) w Q)) := z_gun ((zF300_21 1339 (by decide)).trans rfl)
set_option maxRecDepth 100000 in
theorem g300_1340 {d : Nat} {u : Nat × Nat} {ls st : List z_V} {w : z_W} {Q : z_P} {o : Option Nat} : z_G d u 300 1340 (z_vr o :: ls) st w Q ↔ z_G d u 300 1341 (z_vr o :: ls) (z_vr o :: st) w Q := z_gun ((zF300_21 1340 (by decide)).trans rfl)
set_option maxRecDepth 100000 in
theorem g300_1340r {d : Nat} {u : Nat × Nat} {ls st : List z_V} {w : z_W} {Q : z_P} {k : Nat} : z_G d u 300 1340 (z_r k :: ls) st w Q ↔ z_G d u 300 1341 (z_r k :: ls) (z_r k :: st) w Q := z_gun ((zF300_21 1340 (by decide)).trans rfl)
set_option maxRecDepth 100000 in
theorem g300_1341 {d : Nat} {u : Nat × Nat} {ls st : List z_V} {w : z_W} {Q : z_P} {z : Int} {a0 a1 a2 a3 : z_V} : z_G d u 300 1341 (a0 :: a1 :: a2 :: a3 :: z_i z :: ls) st w Q ↔ z_G d u 300 1343 (a0 :: a1 :: a2 :: a3 :: z_i z :: ls) (z_i z :: st) w Q := z_gun ((zF300_21 1341 (by decide)).trans rfl)
set_option maxRecDepth 100000 in
theorem g300_1343 {d : Nat} {u : Nat × Nat} {ls st : List z_V} {w : z_W} {Q : z_P} : z_G d u 300 1343 ls st w Q ↔ z_G d u 300 1344 ls (z_i (4) :: st) w Q := z_gun ((zF300_21 1343 (by decide)).trans rfl)
set_option maxRecDepth 100000 in
theorem g300_1344 {d : Nat} {u : Nat × Nat} {ls st : List z_V} {w : z_W} {Q : z_P} {x y : Int} : z_G d u 300 1344 ls (z_i y :: z_i x :: st) w Q ↔ z_G d u 300 1345 ls (z_i (z_add x y) :: st) w Q := z_gun ((zF300_21 1344 (by decide)).trans rfl)
set_option maxRecDepth 100000 in
theorem g300_1345 {d : Nat} {u : Nat × Nat} {ls st : List z_V} {w : z_W} {Q : z_P} {p : Nat} {i : Int} : z_G d u 300 1345 ls (z_i i :: z_r p :: st) w Q ↔ ((z_k w p = 100 ∨ z_k w p = 103) ∧ 0 ≤ i ∧ i < z_len w p ∧ (z_rg (z_I w p i) → z_G d u 300 1346 ls (z_i (z_I w p i) :: st) w Q)) := z_gun ((zF300_21 1345 (by decide)).trans rfl)
set_option maxRecDepth 100000 in
theorem g300_1346 {d : Nat} {u : Nat × Nat} {ls st : List z_V} {w : z_W} {Q : z_P} {p : Nat} {x0 x1 x2 x3 : Int} : z_G (d + 1) u 300 1346 ls (z_i x3 :: z_i x2 :: z_i x1 :: z_i x0 :: z_r p :: st) w Q ↔ (z_k w p = 12 ∧ z_c8 st 8 = true ∧ z_G d (0, 0) 275 0 [z_r p, z_i x0, z_i x1, z_i x2, z_i x3] [] w (fun r w' => z_G (d + 1) u 300 1349 ls (r.toList ++ st) w' Q)) := z_gcaV (d := d) (m := 300) (pc := 1346) (m' := 275) (k := 5) (nL := 5) (nx := 1349) (ci := 12) (p := p) (u := u) (ls := ls) (st := st) (w := w) (Q := Q) (vs := [z_r p, z_i x0, z_i x1, z_i x2, z_i x3]) ((zF300_21 1346 (by decide)).trans rfl) rfl rfl
set_option maxRecDepth 100000 in
theorem g300_1349 {d : Nat} {u : Nat × Nat} {ls st : List z_V} {w : z_W} {Q : z_P} {x : Int} : z_G d u 300 1349 ls (z_i x :: st) w Q ↔ z_G d u 300 1350 ls st w Q := z_gun ((zF300_21 1349 (by decide)).trans rfl)
set_option maxRecDepth 100000 in
theorem g300_1349r {d : Nat} {u : Nat × Nat} {ls st : List z_V} {w : z_W} {Q : z_P} {k : Nat} : z_G d u 300 1349 ls (z_r k :: st) w Q ↔ z_G d u 300 1350 ls st w Q := z_gun ((zF300_21 1349 (by decide)).trans rfl)
set_option maxRecDepth 100000 in
theorem g300_1350 {d : Nat} {u : Nat × Nat} {ls st : List z_V} {w : z_W} {Q : z_P} : z_G d u 300 1350 ls st w Q ↔ z_G d u 300 1614 ls st w Q := z_gun ((zF300_21 1350 (by decide)).trans rfl)
set_option maxRecDepth 100000 in
theorem g300_1353 {d : Nat} {u : Nat × Nat} {ls st : List z_V} {w : z_W} {Q : z_P} {o : Option Nat} {a0 : z_V} : z_G d u 300 1353 (a0 :: z_vr o :: ls) st w Q ↔ z_G d u 300 1354 (a0 :: z_vr o :: ls) (z_vr o :: st) w Q := z_gun ((zF300_21 1353 (by decide)).trans rfl)
set_option maxRecDepth 100000 in
theorem g300_1353r {d : Nat} {u : Nat × Nat} {ls st : List z_V} {w : z_W} {Q : z_P} {k : Nat} {a0 : z_V} : z_G d u 300 1353 (a0 :: z_r k :: ls) st w Q ↔ z_G d u 300 1354 (a0 :: z_r k :: ls) (z_r k :: st) w Q := z_gun ((zF300_21 1353 (by decide)).trans rfl)
set_option maxRecDepth 100000 in
theorem g300_1354 {d : Nat} {u : Nat × Nat} {ls st : List z_V} {w : z_W} {Q : z_P} {o : Option Nat} : z_G d u 300 1354 (z_vr o :: ls) st w Q ↔ z_G d u 300 1355 (z_vr o :: ls) (z_vr o :: st) w Q := z_gun ((zF300_21 1354 (by decide)).trans rfl)
set_option maxRecDepth 100000 in
theorem g300_1354r {d : Nat} {u : Nat × Nat} {ls st : List z_V} {w : z_W} {Q : z_P} {k : Nat} : z_G d u 300 1354 (z_r k :: ls) st w Q ↔ z_G d u 300 1355 (z_r k :: ls) (z_r k :: st) w Q := z_gun ((zF300_21 1354 (by decide)).trans rfl)
set_option maxRecDepth 100000 in
theorem g300_1355 {d : Nat} {u : Nat × Nat} {ls st : List z_V} {w : z_W} {Q : z_P} {z : Int} {a0 a1 a2 a3 : z_V} : z_G d u 300 1355 (a0 :: a1 :: a2 :: a3 :: z_i z :: ls) st w Q ↔ z_G d u 300 1357 (a0 :: a1 :: a2 :: a3 :: z_i z :: ls) (z_i z :: st) w Q := z_gun ((zF300_21 1355 (by decide)).trans rfl)
set_option maxRecDepth 100000 in
theorem g300_1357 {d : Nat} {u : Nat × Nat} {ls st : List z_V} {w : z_W} {Q : z_P} : z_G d u 300 1357 ls st w Q ↔ z_G d u 300 1358 ls (z_i (1) :: st) w Q := z_gun ((zF300_21 1357 (by decide)).trans rfl)
set_option maxRecDepth 100000 in
theorem g300_1358 {d : Nat} {u : Nat × Nat} {ls st : List z_V} {w : z_W} {Q : z_P} {x y : Int} : z_G d u 300 1358 ls (z_i y :: z_i x :: st) w Q ↔ z_G d u 300 1359 ls (z_i (z_add x y) :: st) w Q := z_gun ((zF300_21 1358 (by decide)).trans rfl)
set_option maxRecDepth 100000 in
theorem g300_1359 {d : Nat} {u : Nat × Nat} {ls st : List z_V} {w : z_W} {Q : z_P} {p : Nat} {i : Int} : z_G d u 300 1359 ls (z_i i :: z_r p :: st) w Q ↔ ((z_k w p = 100 ∨ z_k w p = 103) ∧ 0 ≤ i ∧ i < z_len w p ∧ (z_rg (z_I w p i) → z_G d u 300 1360 ls (z_i (z_I w p i) :: st) w Q)) := z_gun ((zF300_21 1359 (by decide)).trans rfl)
set_option maxRecDepth 100000 in
theorem g300_1360 {d : Nat} {u : Nat × Nat} {ls st : List z_V} {w : z_W} {Q : z_P} {o : Option Nat} : z_G d u 300 1360 (z_vr o :: ls) st w Q ↔ z_G d u 300 1361 (z_vr o :: ls) (z_vr o :: st) w Q := z_gun ((zF300_21 1360 (by decide)).trans rfl)
set_option maxRecDepth 100000 in
theorem g300_1360r {d : Nat} {u : Nat × Nat} {ls st : List z_V} {w : z_W} {Q : z_P} {k : Nat} : z_G d u 300 1360 (z_r k :: ls) st w Q ↔ z_G d u 300 1361 (z_r k :: ls) (z_r k :: st) w Q := z_gun ((zF300_21 1360 (by decide)).trans rfl)
set_option maxRecDepth 100000 in
theorem g300_1361 {d : Nat} {u : Nat × Nat} {ls st : List z_V} {w : z_W} {Q : z_P} {z : Int} {a0 a1 a2 a3 : z_V} : z_G d u 300 1361 (a0 :: a1 :: a2 :: a3 :: z_i z :: ls) st w Q ↔ z_G d u 300 1363 (a0 :: a1 :: a2 :: a3 :: z_i z :: ls) (z_i z :: st) w Q := z_gun ((zF300_21 1361 (by decide)).trans rfl)
set_option maxRecDepth 100000 in
theorem g300_1363 {d : Nat} {u : Nat × Nat} {ls st : List z_V} {w : z_W} {Q : z_P} : z_G d u 300 1363 ls st w Q ↔ z_G d u 300 1364 ls (z_i (2) :: st) w Q := z_gun ((zF300_21 1363 (by decide)).trans rfl)
set_option maxRecDepth 100000 in
theorem g300_1364 {d : Nat} {u : Nat × Nat} {ls st : List z_V} {w : z_W} {Q : z_P} {x y : Int} : z_G d u 300 1364 ls (z_i y :: z_i x :: st) w Q ↔ z_G d u 300 1365 ls (z_i (z_add x y) :: st) w Q := z_gun ((zF300_21 1364 (by decide)).trans rfl)
set_option maxRecDepth 100000 in
theorem g300_1365 {d : Nat} {u : Nat × Nat} {ls st : List z_V} {w : z_W} {Q : z_P} {p : Nat} {i : Int} : z_G d u 300 1365 ls (z_i i :: z_r p :: st) w Q ↔ ((z_k w p = 100 ∨ z_k w p = 103) ∧ 0 ≤ i ∧ i < z_len w p ∧ (z_rg (z_I w p i) → z_G d u 300 1366 ls (z_i (z_I w p i) :: st) w Q)) := z_gun ((zF300_21 1365 (by decide)).trans rfl)
set_option maxRecDepth 100000 in
theorem g300_1366 {d : Nat} {u : Nat × Nat} {ls st : List z_V} {w : z_W} {Q : z_P} {p : Nat} {x0 x1 : Int} : z_G (d + 1) u 300 1366 ls (z_i x1 :: z_i x0 :: z_r p :: st) w Q ↔ (z_k w p = 11 ∧ z_c8 st 8 = true ∧ z_G d (0, 0) 155 0 [z_r p, z_i x0, z_i x1, z_x, z_x, z_x] [] w (fun r w' => z_G (d + 1) u 300 1369 ls (r.toList ++ st) w' Q)) := z_gcaV (d := d) (m := 300) (pc := 1366) (m' := 155) (k := 3) (nL := 6) (nx := 1369) (ci := 11) (p := p) (u := u) (ls := ls) (st := st) (w := w) (Q := Q) (vs := [z_r p, z_i x0, z_i x1]) ((zF300_21 1366 (by decide)).trans rfl) rfl rfl
set_option maxRecDepth 100000 in
theorem g300_1369 {d : Nat} {u : Nat × Nat} {ls st : List z_V} {w : z_W} {Q : z_P} {x : Int} : z_G d u 300 1369 ls (z_i x :: st) w Q ↔ z_G d u 300 1370 ls st w Q := z_gun ((zF300_21 1369 (by decide)).trans rfl)
set_option maxRecDepth 100000 in
theorem g300_1369r {d : Nat} {u : Nat × Nat} {ls st : List z_V} {w : z_W} {Q : z_P} {k : Nat} : z_G d u 300 1369 ls (z_r k :: st) w Q ↔ z_G d u 300 1370 ls st w Q := z_gun ((zF300_21 1369 (by decide)).trans rfl)
set_option maxRecDepth 100000 in
theorem g300_1370 {d : Nat} {u : Nat × Nat} {ls st : List z_V} {w : z_W} {Q : z_P} {o : Option Nat} {a0 a1 : z_V} : z_G d u 300 1370 (a0 :: a1 :: z_vr o :: ls) st w Q ↔ z_G d u 300 1371 (a0 :: a1 :: z_vr o :: ls) (z_vr o :: st) w Q := z_gun ((zF300_21 1370 (by decide)).trans rfl)
set_option maxRecDepth 100000 in
theorem g300_1370r {d : Nat} {u : Nat × Nat} {ls st : List z_V} {w : z_W} {Q : z_P} {k : Nat} {a0 a1 : z_V} : z_G d u 300 1370 (a0 :: a1 :: z_r k :: ls) st w Q ↔ z_G d u 300 1371 (a0 :: a1 :: z_r k :: ls) (z_r k :: st) w Q := z_gun ((zF300_21 1370 (by decide)).trans rfl)
set_option maxRecDepth 100000 in
theorem g300_1371 {d : Nat} {u : Nat × Nat} {ls st : List z_V} {w : z_W} {Q : z_P} {o : Option Nat} : z_G d u 300 1371 (z_vr o :: ls) st w Q ↔ z_G d u 300 1372 (z_vr o :: ls) (z_vr o :: st) w Q := z_gun ((zF300_21 1371 (by decide)).trans rfl)
set_option maxRecDepth 100000 in
theorem g300_1371r {d : Nat} {u : Nat × Nat} {ls st : List z_V} {w : z_W} {Q : z_P} {k : Nat} : z_G d u 300 1371 (z_r k :: ls) st w Q ↔ z_G d u 300 1372 (z_r k :: ls) (z_r k :: st) w Q := z_gun ((zF300_21 1371 (by decide)).trans rfl)
set_option maxRecDepth 100000 in
theorem g300_1372 {d : Nat} {u : Nat × Nat} {ls st : List z_V} {w : z_W} {Q : z_P} {z : Int} {a0 a1 a2 a3 : z_V} : z_G d u 300 1372 (a0 :: a1 :: a2 :: a3 :: z_i z :: ls) st w Q ↔ z_G d u 300 1374 (a0 :: a1 :: a2 :: a3 :: z_i z :: ls) (z_i z :: st) w Q := z_gun ((zF300_21 1372 (by decide)).trans rfl)
set_option maxRecDepth 100000 in
theorem g300_1374 {d : Nat} {u : Nat × Nat} {ls st : List z_V} {w : z_W} {Q : z_P} : z_G d u 300 1374 ls st w Q ↔ z_G d u 300 1375 ls (z_i (1) :: st) w Q := z_gun ((zF300_21 1374 (by decide)).trans rfl)
set_option maxRecDepth 100000 in
theorem g300_1375 {d : Nat} {u : Nat × Nat} {ls st : List z_V} {w : z_W} {Q : z_P} {x y : Int} : z_G d u 300 1375 ls (z_i y :: z_i x :: st) w Q ↔ z_G d u 300 1376 ls (z_i (z_add x y) :: st) w Q := z_gun ((zF300_22 1375 (by decide)).trans rfl)
set_option maxRecDepth 100000 in
theorem g300_1376 {d : Nat} {u : Nat × Nat} {ls st : List z_V} {w : z_W} {Q : z_P} {p : Nat} {i : Int} : z_G d u 300 1376 ls (z_i i :: z_r p :: st) w Q ↔ ((z_k w p = 100 ∨ z_k w p = 103) ∧ 0 ≤ i ∧ i < z_len w p ∧ (z_rg (z_I w p i) → z_G d u 300 1377 ls (z_i (z_I w p i) :: st) w Q)) := z_gun ((zF300_22 1376 (by decide)).trans rfl)
set_option maxRecDepth 100000 in
theorem g300_1377 {d : Nat} {u : Nat × Nat} {ls st : List z_V} {w : z_W} {Q : z_P} {o : Option Nat} : z_G d u 300 1377 (z_vr o :: ls) st w Q ↔ z_G d u 300 1378 (z_vr o :: ls) (z_vr o :: st) w Q := z_gun ((zF300_22 1377 (by decide)).trans rfl)
set_option maxRecDepth 100000 in
theorem g300_1377r {d : Nat} {u : Nat × Nat} {ls st : List z_V} {w : z_W} {Q : z_P} {k : Nat} : z_G d u 300 1377 (z_r k :: ls) st w Q ↔ z_G d u 300 1378 (z_r k :: ls) (z_r k :: st) w Q := z_gun ((zF300_22 1377 (by decide)).trans rfl)
set_option maxRecDepth 100000 in
theorem g300_1378 {d : Nat} {u : Nat × Nat} {ls st : List z_V} {w : z_W} {Q : z_P} {z : Int} {a0 a1 a2 a3 : z_V} : z_G d u 300 1378 (a0 :: a1 :: a2 :: a3 :: z_i z :: ls) st w Q ↔ z_G d u 300 1380 (a0 :: a1 :: a2 :: a3 :: z_i z :: ls) (z_i z :: st) w Q := z_gun ((zF300_22 1378 (by decide)).trans rfl)
set_option maxRecDepth 100000 in
theorem g300_1380 {d : Nat} {u : Nat × Nat} {ls st : List z_V} {w : z_W} {Q : z_P} : z_G d u 300 1380 ls st w Q ↔ z_G d u 300 1381 ls (z_i (2) :: st) w Q := z_gun ((zF300_22 1380 (by decide)).trans rfl)
set_option maxRecDepth 100000 in
theorem g300_1381 {d : Nat} {u : Nat × Nat} {ls st : List z_V} {w : z_W} {Q : z_P} {x y : Int} : z_G d u 300 1381 ls (z_i y :: z_i x :: st) w Q ↔ z_G d u 300 1382 ls (z_i (z_add x y) :: st) w Q := z_gun ((zF300_22 1381 (by decide)).trans rfl)
set_option maxRecDepth 100000 in
theorem g300_1382 {d : Nat} {u : Nat × Nat} {ls st : List z_V} {w : z_W} {Q : z_P} {p : Nat} {i : Int} : z_G d u 300 1382 ls (z_i i :: z_r p :: st) w Q ↔ ((z_k w p = 100 ∨ z_k w p = 103) ∧ 0 ≤ i ∧ i < z_len w p ∧ (z_rg (z_I w p i) → z_G d u 300 1383 ls (z_i (z_I w p i) :: st) w Q)) := z_gun ((zF300_22 1382 (by decide)).trans rfl)
set_option maxRecDepth 100000 in
theorem g300_1383 {d : Nat} {u : Nat × Nat} {ls st : List z_V} {w : z_W} {Q : z_P} {p : Nat} {x0 x1 : Int} : z_G (d + 1) u 300 1383 ls (z_i x1 :: z_i x0 :: z_r p :: st) w Q ↔ (z_k w p = 12 ∧ z_c8 st 8 = true ∧ z_G d (0, 0) 276 0 [z_r p, z_i x0, z_i x1, z_x] [] w (fun r w' => z_G (d + 1) u 300 1386 ls (r.toList ++ st) w' Q)) := z_gcaV (d := d) (m := 300) (pc := 1383) (m' := 276) (k := 3) (nL := 4) (nx := 1386) (ci := 12) (p := p) (u := u) (ls := ls) (st := st) (w := w) (Q := Q) (vs := [z_r p, z_i x0, z_i x1]) ((zF300_22 1383 (by decide)).trans rfl) rfl rfl
set_option maxRecDepth 100000 in
theorem g300_1386 {d : Nat} {u : Nat × Nat} {ls st : List z_V} {w : z_W} {Q : z_P} {x : Int} : z_G d u 300 1386 ls (z_i x :: st) w Q ↔ z_G d u 300 1387 ls st w Q := z_gun ((zF300_22 1386 (by decide)).trans rfl)
set_option maxRecDepth 100000 in
theorem g300_1386r {d : Nat} {u : Nat × Nat} {ls st : List z_V} {w : z_W} {Q : z_P} {k : Nat} : z_G d u 300 1386 ls (z_r k :: st) w Q ↔ z_G d u 300 1387 ls st w Q := z_gun ((zF300_22 1386 (by decide)).trans rfl)
set_option maxRecDepth 100000 in
theorem g300_1387 {d : Nat} {u : Nat × Nat} {ls st : List z_V} {w : z_W} {Q : z_P} : z_G d u 300 1387 ls st w Q ↔ z_G d u 300 1614 ls st w Q := z_gun ((zF300_22 1387 (by decide)).trans rfl)
set_option maxRecDepth 100000 in
theorem g300_1390 {d : Nat} {u : Nat × Nat} {ls st : List z_V} {w : z_W} {Q : z_P} {o : Option Nat} {a0 : z_V} : z_G d u 300 1390 (a0 :: z_vr o :: ls) st w Q ↔ z_G d u 300 1391 (a0 :: z_vr o :: ls) (z_vr o :: st) w Q := z_gun ((zF300_22 1390 (by decide)).trans rfl)
set_option maxRecDepth 100000 in
theorem g300_1390r {d : Nat} {u : Nat × Nat} {ls st : List z_V} {w : z_W} {Q : z_P} {k : Nat} {a0 : z_V} : z_G d u 300 1390 (a0 :: z_r k :: ls) st w Q ↔ z_G d u 300 1391 (a0 :: z_r k :: ls) (z_r k :: st) w Q := z_gun ((zF300_22 1390 (by decide)).trans rfl)
set_option maxRecDepth 100000 in
theorem g300_1391 {d : Nat} {u : Nat × Nat} {ls st : List z_V} {w : z_W} {Q : z_P} {o : Option Nat} : z_G d u 300 1391 (z_vr o :: ls) st w Q ↔ z_G d u 300 1392 (z_vr o :: ls) (z_vr o :: st) w Q := z_gun ((zF300_22 1391 (by decide)).trans rfl)
set_option maxRecDepth 100000 in
theorem g300_1391r {d : Nat} {u : Nat × Nat} {ls st : List z_V} {w : z_W} {Q : z_P} {k : Nat} : z_G d u 300 1391 (z_r k :: ls) st w Q ↔ z_G d u 300 1392 (z_r k :: ls) (z_r k :: st) w Q := z_gun ((zF300_22 1391 (by decide)).trans rfl)
set_option maxRecDepth 100000 in
theorem g300_1392 {d : Nat} {u : Nat × Nat} {ls st : List z_V} {w : z_W} {Q : z_P} {z : Int} {a0 a1 a2 a3 : z_V} : z_G d u 300 1392 (a0 :: a1 :: a2 :: a3 :: z_i z :: ls) st w Q ↔ z_G d u 300 1394 (a0 :: a1 :: a2 :: a3 :: z_i z :: ls) (z_i z :: st) w Q := z_gun ((zF300_22 1392 (by decide)).trans rfl)
set_option maxRecDepth 100000 in
theorem g300_1394 {d : Nat} {u : Nat × Nat} {ls st : List z_V} {w : z_W} {Q : z_P} : z_G d u 300 1394 ls st w Q ↔ z_G d u 300 1395 ls (z_i (1) :: st) w Q := z_gun ((zF300_22 1394 (by decide)).trans rfl)
set_option maxRecDepth 100000 in
theorem g300_1395 {d : Nat} {u : Nat × Nat} {ls st : List z_V} {w : z_W} {Q : z_P} {x y : Int} : z_G d u 300 1395 ls (z_i y :: z_i x :: st) w Q ↔ z_G d u 300 1396 ls (z_i (z_add x y) :: st) w Q := z_gun ((zF300_22 1395 (by decide)).trans rfl)
set_option maxRecDepth 100000 in
theorem g300_1396 {d : Nat} {u : Nat × Nat} {ls st : List z_V} {w : z_W} {Q : z_P} {p : Nat} {i : Int} : z_G d u 300 1396 ls (z_i i :: z_r p :: st) w Q ↔ ((z_k w p = 100 ∨ z_k w p = 103) ∧ 0 ≤ i ∧ i < z_len w p ∧ (z_rg (z_I w p i) → z_G d u 300 1397 ls (z_i (z_I w p i) :: st) w Q)) := z_gun ((zF300_22 1396 (by decide)).trans rfl)
set_option maxRecDepth 100000 in
theorem g300_1397 {d : Nat} {u : Nat × Nat} {ls st : List z_V} {w : z_W} {Q : z_P} {o : Option Nat} : z_G d u 300 1397 (z_vr o :: ls) st w Q ↔ z_G d u 300 1398 (z_vr o :: ls) (z_vr o :: st) w Q := z_gun ((zF300_22 1397 (by decide)).trans rfl)
set_option maxRecDepth 100000 in
theorem g300_1397r {d : Nat} {u : Nat × Nat} {ls st : List z_V} {w : z_W} {Q : z_P} {k : Nat} : z_G d u 300 1397 (z_r k :: ls) st w Q ↔ z_G d u 300 1398 (z_r k :: ls) (z_r k :: st) w Q := z_gun ((zF300_22 1397 (by decide)).trans rfl)
set_option maxRecDepth 100000 in
theorem g300_1398 {d : Nat} {u : Nat × Nat} {ls st : List z_V} {w : z_W} {Q : z_P} {z : Int} {a0 a1 a2 a3 : z_V} : z_G d u 300 1398 (a0 :: a1 :: a2 :: a3 :: z_i z :: ls) st w Q ↔ z_G d u 300 1400 (a0 :: a1 :: a2 :: a3 :: z_i z :: ls) (z_i z :: st) w Q := z_gun ((zF300_22 1398 (by decide)).trans rfl)
set_option maxRecDepth 100000 in
theorem g300_1400 {d : Nat} {u : Nat × Nat} {ls st : List z_V} {w : z_W} {Q : z_P} : z_G d u 300 1400 ls st w Q ↔ z_G d u 300 1401 ls (z_i (2) :: st) w Q := z_gun ((zF300_22 1400 (by decide)).trans rfl)
set_option maxRecDepth 100000 in
theorem g300_1401 {d : Nat} {u : Nat × Nat} {ls st : List z_V} {w : z_W} {Q : z_P} {x y : Int} : z_G d u 300 1401 ls (z_i y :: z_i x :: st) w Q ↔ z_G d u 300 1402 ls (z_i (z_add x y) :: st) w Q := z_gun ((zF300_22 1401 (by decide)).trans rfl)
set_option maxRecDepth 100000 in
theorem g300_1402 {d : Nat} {u : Nat × Nat} {ls st : List z_V} {w : z_W} {Q : z_P} {p : Nat} {i : Int} : z_G d u 300 1402 ls (z_i i :: z_r p :: st) w Q ↔ ((z_k w p = 100 ∨ z_k w p = 103) ∧ 0 ≤ i ∧ i < z_len w p ∧ (z_rg (z_I w p i) → z_G d u 300 1403 ls (z_i (z_I w p i) :: st) w Q)) := z_gun ((zF300_22 1402 (by decide)).trans rfl)
set_option maxRecDepth 100000 in
theorem g300_1403 {d : Nat} {u : Nat × Nat} {ls st : List z_V} {w : z_W} {Q : z_P} {p : Nat} {x0 x1 : Int} : z_G (d + 1) u 300 1403 ls (z_i x1 :: z_i x0 :: z_r p :: st) w Q ↔ (z_k w p = 11 ∧ z_c8 st 8 = true ∧ z_G d (0, 0) 156 0 [z_r p, z_i x0, z_i x1, z_x] [] w (fun r w' => z_G (d + 1) u 300 1406 ls (r.toList ++ st) w' Q)) := z_gcaV (d := d) (m := 300) (pc := 1403) (m' := 156) (k := 3) (nL := 4) (nx := 1406) (ci := 11) (p := p) (u := u) (ls := ls) (st := st) (w := w) (Q := Q) (vs := [z_r p, z_i x0, z_i x1]) ((zF300_22 1403 (by decide)).trans rfl) rfl rfl
set_option maxRecDepth 100000 in
theorem g300_1406 {d : Nat} {u : Nat × Nat} {ls st : List z_V} {w : z_W} {Q : z_P} {x : Int} : z_G d u 300 1406 ls (z_i x :: st) w Q ↔ z_G d u 300 1407 ls st w Q := z_gun ((zF300_22 1406 (by decide)).trans rfl)
set_option maxRecDepth 100000 in
theorem g300_1406r {d : Nat} {u : Nat × Nat} {ls st : List z_V} {w : z_W} {Q : z_P} {k : Nat} : z_G d u 300 1406 ls (z_r k :: st) w Q ↔ z_G d u 300 1407 ls st w Q := z_gun ((zF300_22 1406 (by decide)).trans rfl)
set_option maxRecDepth 100000 in
theorem g300_1407 {d : Nat} {u : Nat × Nat} {ls st : List z_V} {w : z_W} {Q : z_P} {o : Option Nat} {a0 a1 : z_V} : z_G d u 300 1407 (a0 :: a1 :: z_vr o :: ls) st w Q ↔ z_G d u 300 1408 (a0 :: a1 :: z_vr o :: ls) (z_vr o :: st) w Q := z_gun ((zF300_22 1407 (by decide)).trans rfl)
set_option maxRecDepth 100000 in
theorem g300_1407r {d : Nat} {u : Nat × Nat} {ls st : List z_V} {w : z_W} {Q : z_P} {k : Nat} {a0 a1 : z_V} : z_G d u 300 1407 (a0 :: a1 :: z_r k :: ls) st w Q ↔ z_G d u 300 1408 (a0 :: a1 :: z_r k :: ls) (z_r k :: st) w Q := z_gun ((zF300_22 1407 (by decide)).trans rfl)
set_option maxRecDepth 100000 in
theorem g300_1408 {d : Nat} {u : Nat × Nat} {ls st : List z_V} {w : z_W} {Q : z_P} {o : Option Nat} : z_G d u 300 1408 (z_vr o :: ls) st w Q ↔ z_G d u 300 1409 (z_vr o :: ls) (z_vr o :: st) w Q := z_gun ((zF300_22 1408 (by decide)).trans rfl)
set_option maxRecDepth 100000 in
theorem g300_1408r {d : Nat} {u : Nat × Nat} {ls st : List z_V} {w : z_W} {Q : z_P} {k : Nat} : z_G d u 300 1408 (z_r k :: ls) st w Q ↔ z_G d u 300 1409 (z_r k :: ls) (z_r k :: st) w Q := z_gun ((zF300_22 1408 (by decide)).trans rfl)
set_option maxRecDepth 100000 in
theorem g300_1409 {d : Nat} {u : Nat × Nat} {ls st : List z_V} {w : z_W} {Q : z_P} {z : Int} {a0 a1 a2 a3 : z_V} : z_G d u 300 1409 (a0 :: a1 :: a2 :: a3 :: z_i z :: ls) st w Q ↔ z_G d u 300 1411 (a0 :: a1 :: a2 :: a3 :: z_i z :: ls) (z_i z :: st) w Q := z_gun ((zF300_22 1409 (by decide)).trans rfl)
set_option maxRecDepth 100000 in
theorem g300_1411 {d : Nat} {u : Nat × Nat} {ls st : List z_V} {w : z_W} {Q : z_P} : z_G d u 300 1411 ls st w Q ↔ z_G d u 300 1412 ls (z_i (1) :: st) w Q := z_gun ((zF300_22 1411 (by decide)).trans rfl)
set_option maxRecDepth 100000 in
theorem g300_1412 {d : Nat} {u : Nat × Nat} {ls st : List z_V} {w : z_W} {Q : z_P} {x y : Int} : z_G d u 300 1412 ls (z_i y :: z_i x :: st) w Q ↔ z_G d u 300 1413 ls (z_i (z_add x y) :: st) w Q := z_gun ((zF300_22 1412 (by decide)).trans rfl)
set_option maxRecDepth 100000 in
theorem g300_1413 {d : Nat} {u : Nat × Nat} {ls st : List z_V} {w : z_W} {Q : z_P} {p : Nat} {i : Int} : z_G d u 300 1413 ls (z_i i :: z_r p :: st) w Q ↔ ((z_k w p = 100 ∨ z_k w p = 103) ∧ 0 ≤ i ∧ i < z_len w p ∧ (z_rg (z_I w p i) → z_G d u 300 1414 ls (z_i (z_I w p i) :: st) w Q)) := z_gun ((zF300_22 1413 (by decide)).trans rfl)
set_option maxRecDepth 100000 in
theorem g300_1414 {d : Nat} {u : Nat × Nat} {ls st : List z_V} {w : z_W} {Q : z_P} {o : Option Nat} : z_G d u 300 1414 (z_vr o :: ls) st w Q ↔ z_G d u 300 1415 (z_vr o :: ls) (z_vr o :: st) w Q := z_gun ((zF300_22 1414 (by decide)).trans rfl)
set_option maxRecDepth 100000 in
theorem g300_1414r {d : Nat} {u : Nat × Nat} {ls st : List z_V} {w : z_W} {Q : z_P} {k : Nat} : z_G d u 300 1414 (z_r k :: ls) st w Q ↔ z_G d u 300 1415 (z_r k :: ls) (z_r k :: st) w Q := z_gun ((zF300_22 1414 (by decide)).trans rfl)
set_option maxRecDepth 100000 in
theorem g300_1415 {d : Nat} {u : Nat × Nat} {ls st : List z_V} {w : z_W} {Q : z_P} {z : Int} {a0 a1 a2 a3 : z_V} : z_G d u 300 1415 (a0 :: a1 :: a2 :: a3 :: z_i z :: ls) st w Q ↔ z_G d u 300 1417 (a0 :: a1 :: a2 :: a3 :: z_i z :: ls) (z_i z :: st) w Q := z_gun ((zF300_22 1415 (by decide)).trans rfl)
set_option maxRecDepth 100000 in
theorem g300_1417 {d : Nat} {u : Nat × Nat} {ls st : List z_V} {w : z_W} {Q : z_P} : z_G d u 300 1417 ls st w Q ↔ z_G d u 300 1418 ls (z_i (2) :: st) w Q := z_gun ((zF300_22 1417 (by decide)).trans rfl)
set_option maxRecDepth 100000 in
theorem g300_1418 {d : Nat} {u : Nat × Nat} {ls st : List z_V} {w : z_W} {Q : z_P} {x y : Int} : z_G d u 300 1418 ls (z_i y :: z_i x :: st) w Q ↔ z_G d u 300 1419 ls (z_i (z_add x y) :: st) w Q := z_gun ((zF300_22 1418 (by decide)).trans rfl)
set_option maxRecDepth 100000 in
theorem g300_1419 {d : Nat} {u : Nat × Nat} {ls st : List z_V} {w : z_W} {Q : z_P} {p : Nat} {i : Int} : z_G d u 300 1419 ls (z_i i :: z_r p :: st) w Q ↔ ((z_k w p = 100 ∨ z_k w p = 103) ∧ 0 ≤ i ∧ i < z_len w p ∧ (z_rg (z_I w p i) → z_G d u 300 1420 ls (z_i (z_I w p i) :: st) w Q)) := z_gun ((zF300_22 1419 (by decide)).trans rfl)
set_option maxRecDepth 100000 in
theorem g300_1420 {d : Nat} {u : Nat × Nat} {ls st : List z_V} {w : z_W} {Q : z_P} {p : Nat} {x0 x1 : Int} : z_G (d + 1) u 300 1420 ls (z_i x1 :: z_i x0 :: z_r p :: st) w Q ↔ (z_k w p = 12 ∧ z_c8 st 8 = true ∧ z_G d (0, 0) 277 0 [z_r p, z_i x0, z_i x1] [] w (fun r w' => z_G (d + 1) u 300 1423 ls (r.toList ++ st) w' Q)) := z_gcaV (d := d) (m := 300) (pc := 1420) (m' := 277) (k := 3) (nL := 3) (nx := 1423) (ci := 12) (p := p) (u := u) (ls := ls) (st := st) (w := w) (Q := Q) (vs := [z_r p, z_i x0, z_i x1]) ((zF300_22 1420 (by decide)).trans rfl) rfl rfl
set_option maxRecDepth 100000 in
theorem g300_1423 {d : Nat} {u : Nat × Nat} {ls st : List z_V} {w : z_W} {Q : z_P} {x : Int} : z_G d u 300 1423 ls (z_i x :: st) w Q ↔ z_G d u 300 1424 ls st w Q := z_gun ((zF300_22 1423 (by decide)).trans rfl)
