set_option maxRecDepth 100000 in
theorem g300_988 {d : Nat} {u : Nat × Nat} {ls st : List z_V} {w : z_W} {Q : z_P} {p : Nat} {i : Int} : z_G d u 300 988 ls (z_i i :: z_r p :: st) w Q ↔ ((z_k w p = 100 ∨ z_k w p = 103) ∧ 0 ≤ i ∧ i < z_len w p ∧ (z_rg (z_I w p i) → z_G d u 300 989 ls (z_i (z_I w p i) :: st) w Q)) := z_gun ((zF300_15 988 (by decide)).trans rfl)
set_option maxRecDepth 100000 in
theorem g300_989 {d : Nat} {u : Nat × Nat} {ls st : List z_V} {w : z_W} {Q : z_P} {x : Int} : z_G d u 300 989 ls (z_i x :: st) w Q ↔ z_G d u 300 990 ls (z_l (z_i2l x) :: st) w Q := z_gun ((zF300_15 989 (by decide)).trans rfl)
set_option maxRecDepth 100000 in
theorem g300_990 {d : Nat} {u : Nat × Nat} {ls st : List z_V} {w : z_W} {Q : z_P} : z_G d u 300 990 ls st w Q ↔ z_G d u 300 993 ls (z_l (4294967295) :: st) w Q := z_gun ((zF300_15 990 (by decide)).trans rfl)
set_option maxRecDepth 100000 in
theorem g300_993 {d : Nat} {u : Nat × Nat} {ls st : List z_V} {w : z_W} {Q : z_P} {x y : Int} : z_G d u 300 993 ls (z_l y :: z_l x :: st) w Q ↔ z_G d u 300 994 ls (z_l (z_land x y) :: st) w Q := z_gun ((zF300_15 993 (by decide)).trans rfl)
set_option maxRecDepth 100000 in
theorem g300_994 {d : Nat} {u : Nat × Nat} {ls st : List z_V} {w : z_W} {Q : z_P} {x y : Int} : z_G d u 300 994 ls (z_l y :: z_l x :: st) w Q ↔ z_G d u 300 995 ls (z_l (z_lor x y) :: st) w Q := z_gun ((zF300_15 994 (by decide)).trans rfl)
set_option maxRecDepth 100000 in
theorem g300_995 {d : Nat} {u : Nat × Nat} {ls st : List z_V} {w : z_W} {Q : z_P} {p : Nat} {x0 x1 : Int} : z_G (d + 1) u 300 995 ls (z_l x1 :: z_i x0 :: z_r p :: st) w Q ↔ (z_k w p = 12 ∧ z_c8 st 8 = true ∧ z_G d (0, 0) 246 0 [z_r p, z_i x0, z_l x1, z_x, z_x] [] w (fun r w' => z_G (d + 1) u 300 998 ls (r.toList ++ st) w' Q)) := z_gcaV (d := d) (m := 300) (pc := 995) (m' := 246) (k := 3) (nL := 5) (nx := 998) (ci := 12) (p := p) (u := u) (ls := ls) (st := st) (w := w) (Q := Q) (vs := [z_r p, z_i x0, z_l x1]) ((zF300_15 995 (by decide)).trans rfl) rfl rfl
set_option maxRecDepth 100000 in
theorem g300_998 {d : Nat} {u : Nat × Nat} {ls st : List z_V} {w : z_W} {Q : z_P} {x : Int} : z_G d u 300 998 ls (z_i x :: st) w Q ↔ z_G d u 300 999 ls st w Q := z_gun ((zF300_15 998 (by decide)).trans rfl)
set_option maxRecDepth 100000 in
theorem g300_998r {d : Nat} {u : Nat × Nat} {ls st : List z_V} {w : z_W} {Q : z_P} {k : Nat} : z_G d u 300 998 ls (z_r k :: st) w Q ↔ z_G d u 300 999 ls st w Q := z_gun ((zF300_15 998 (by decide)).trans rfl)
set_option maxRecDepth 100000 in
theorem g300_999 {d : Nat} {u : Nat × Nat} {ls st : List z_V} {w : z_W} {Q : z_P} : z_G d u 300 999 ls st w Q ↔ z_G d u 300 1586 ls st w Q := z_gun ((zF300_15 999 (by decide)).trans rfl)
set_option maxRecDepth 100000 in
theorem g300_1002 {d : Nat} {u : Nat × Nat} {ls st : List z_V} {w : z_W} {Q : z_P} {o : Option Nat} {a0 : z_V} : z_G d u 300 1002 (a0 :: z_vr o :: ls) st w Q ↔ z_G d u 300 1003 (a0 :: z_vr o :: ls) (z_vr o :: st) w Q := z_gun ((zF300_15 1002 (by decide)).trans rfl)
set_option maxRecDepth 100000 in
theorem g300_1002r {d : Nat} {u : Nat × Nat} {ls st : List z_V} {w : z_W} {Q : z_P} {k : Nat} {a0 : z_V} : z_G d u 300 1002 (a0 :: z_r k :: ls) st w Q ↔ z_G d u 300 1003 (a0 :: z_r k :: ls) (z_r k :: st) w Q := z_gun ((zF300_15 1002 (by decide)).trans rfl)
set_option maxRecDepth 100000 in
theorem g300_1003 {d : Nat} {u : Nat × Nat} {ls st : List z_V} {w : z_W} {Q : z_P} {o : Option Nat} : z_G d u 300 1003 (z_vr o :: ls) st w Q ↔ z_G d u 300 1004 (z_vr o :: ls) (z_vr o :: st) w Q := z_gun ((zF300_15 1003 (by decide)).trans rfl)
set_option maxRecDepth 100000 in
theorem g300_1003r {d : Nat} {u : Nat × Nat} {ls st : List z_V} {w : z_W} {Q : z_P} {k : Nat} : z_G d u 300 1003 (z_r k :: ls) st w Q ↔ z_G d u 300 1004 (z_r k :: ls) (z_r k :: st) w Q := z_gun ((zF300_15 1003 (by decide)).trans rfl)
set_option maxRecDepth 100000 in
theorem g300_1004 {d : Nat} {u : Nat × Nat} {ls st : List z_V} {w : z_W} {Q : z_P} {z : Int} {a0 a1 a2 a3 : z_V} : z_G d u 300 1004 (a0 :: a1 :: a2 :: a3 :: z_i z :: ls) st w Q ↔ z_G d u 300 1006 (a0 :: a1 :: a2 :: a3 :: z_i z :: ls) (z_i z :: st) w Q := z_gun ((zF300_15 1004 (by decide)).trans rfl)
set_option maxRecDepth 100000 in
theorem g300_1006 {d : Nat} {u : Nat × Nat} {ls st : List z_V} {w : z_W} {Q : z_P} : z_G d u 300 1006 ls st w Q ↔ z_G d u 300 1007 ls (z_i (1) :: st) w Q := z_gun ((zF300_15 1006 (by decide)).trans rfl)
set_option maxRecDepth 100000 in
theorem g300_1007 {d : Nat} {u : Nat × Nat} {ls st : List z_V} {w : z_W} {Q : z_P} {x y : Int} : z_G d u 300 1007 ls (z_i y :: z_i x :: st) w Q ↔ z_G d u 300 1008 ls (z_i (z_add x y) :: st) w Q := z_gun ((zF300_15 1007 (by decide)).trans rfl)
set_option maxRecDepth 100000 in
theorem g300_1008 {d : Nat} {u : Nat × Nat} {ls st : List z_V} {w : z_W} {Q : z_P} {p : Nat} {i : Int} : z_G d u 300 1008 ls (z_i i :: z_r p :: st) w Q ↔ ((z_k w p = 100 ∨ z_k w p = 103) ∧ 0 ≤ i ∧ i < z_len w p ∧ (z_rg (z_I w p i) → z_G d u 300 1009 ls (z_i (z_I w p i) :: st) w Q)) := z_gun ((zF300_15 1008 (by decide)).trans rfl)
set_option maxRecDepth 100000 in
theorem g300_1009 {d : Nat} {u : Nat × Nat} {ls st : List z_V} {w : z_W} {Q : z_P} {p : Nat} {x0 : Int} : z_G (d + 1) u 300 1009 ls (z_i x0 :: z_r p :: st) w Q ↔ (z_k w p = 11 ∧ z_c8 st 8 = true ∧ z_G d (0, 0) 146 0 [z_r p, z_i x0] [] w (fun r w' => z_G (d + 1) u 300 1012 ls (r.toList ++ st) w' Q)) := z_gcaV (d := d) (m := 300) (pc := 1009) (m' := 146) (k := 2) (nL := 2) (nx := 1012) (ci := 11) (p := p) (u := u) (ls := ls) (st := st) (w := w) (Q := Q) (vs := [z_r p, z_i x0]) ((zF300_15 1009 (by decide)).trans rfl) rfl rfl
set_option maxRecDepth 100000 in
theorem g300_1012 {d : Nat} {u : Nat × Nat} {ls st : List z_V} {w : z_W} {Q : z_P} {x : Int} : z_G d u 300 1012 ls (z_i x :: st) w Q ↔ z_G d u 300 1013 ls st w Q := z_gun ((zF300_15 1012 (by decide)).trans rfl)
set_option maxRecDepth 100000 in
theorem g300_1012r {d : Nat} {u : Nat × Nat} {ls st : List z_V} {w : z_W} {Q : z_P} {k : Nat} : z_G d u 300 1012 ls (z_r k :: st) w Q ↔ z_G d u 300 1013 ls st w Q := z_gun ((zF300_15 1012 (by decide)).trans rfl)
set_option maxRecDepth 100000 in
theorem g300_1013 {d : Nat} {u : Nat × Nat} {ls st : List z_V} {w : z_W} {Q : z_P} {o : Option Nat} {a0 a1 : z_V} : z_G d u 300 1013 (a0 :: a1 :: z_vr o :: ls) st w Q ↔ z_G d u 300 1014 (a0 :: a1 :: z_vr o :: ls) (z_vr o :: st) w Q := z_gun ((zF300_15 1013 (by decide)).trans rfl)
set_option maxRecDepth 100000 in
theorem g300_1013r {d : Nat} {u : Nat × Nat} {ls st : List z_V} {w : z_W} {Q : z_P} {k : Nat} {a0 a1 : z_V} : z_G d u 300 1013 (a0 :: a1 :: z_r k :: ls) st w Q ↔ z_G d u 300 1014 (a0 :: a1 :: z_r k :: ls) (z_r k :: st) w Q := z_gun ((zF300_15 1013 (by decide)).trans rfl)
set_option maxRecDepth 100000 in
theorem g300_1014 {d : Nat} {u : Nat × Nat} {ls st : List z_V} {w : z_W} {Q : z_P} {o : Option Nat} : z_G d u 300 1014 (z_vr o :: ls) st w Q ↔ z_G d u 300 1015 (z_vr o :: ls) (z_vr o :: st) w Q := z_gun ((zF300_15 1014 (by decide)).trans rfl)
set_option maxRecDepth 100000 in
theorem g300_1014r {d : Nat} {u : Nat × Nat} {ls st : List z_V} {w : z_W} {Q : z_P} {k : Nat} : z_G d u 300 1014 (z_r k :: ls) st w Q ↔ z_G d u 300 1015 (z_r k :: ls) (z_r k :: st) w Q := z_gun ((zF300_15 1014 (by decide)).trans rfl)
set_option maxRecDepth 100000 in
theorem g300_1015 {d : Nat} {u : Nat × Nat} {ls st : List z_V} {w : z_W} {Q : z_P} {z : Int} {a0 a1 a2 a3 : z_V} : z_G d u 300 1015 (a0 :: a1 :: a2 :: a3 :: z_i z :: ls) st w Q ↔ z_G d u 300 1017 (a0 :: a1 :: a2 :: a3 :: z_i z :: ls) (z_i z :: st) w Q := z_gun ((zF300_15 1015 (by decide)).trans rfl)
set_option maxRecDepth 100000 in
theorem g300_1017 {d : Nat} {u : Nat × Nat} {ls st : List z_V} {w : z_W} {Q : z_P} : z_G d u 300 1017 ls st w Q ↔ z_G d u 300 1018 ls (z_i (1) :: st) w Q := z_gun ((zF300_15 1017 (by decide)).trans rfl)
set_option maxRecDepth 100000 in
theorem g300_1018 {d : Nat} {u : Nat × Nat} {ls st : List z_V} {w : z_W} {Q : z_P} {x y : Int} : z_G d u 300 1018 ls (z_i y :: z_i x :: st) w Q ↔ z_G d u 300 1019 ls (z_i (z_add x y) :: st) w Q := z_gun ((zF300_15 1018 (by decide)).trans rfl)
set_option maxRecDepth 100000 in
theorem g300_1019 {d : Nat} {u : Nat × Nat} {ls st : List z_V} {w : z_W} {Q : z_P} {p : Nat} {i : Int} : z_G d u 300 1019 ls (z_i i :: z_r p :: st) w Q ↔ ((z_k w p = 100 ∨ z_k w p = 103) ∧ 0 ≤ i ∧ i < z_len w p ∧ (z_rg (z_I w p i) → z_G d u 300 1020 ls (z_i (z_I w p i) :: st) w Q)) := z_gun ((zF300_15 1019 (by decide)).trans rfl)
set_option maxRecDepth 100000 in
theorem g300_1020 {d : Nat} {u : Nat × Nat} {ls st : List z_V} {w : z_W} {Q : z_P} {p : Nat} {x0 : Int} : z_G (d + 1) u 300 1020 ls (z_i x0 :: z_r p :: st) w Q ↔ (z_k w p = 12 ∧ z_c8 st 8 = true ∧ z_G d (0, 0) 247 0 [z_r p, z_i x0] [] w (fun r w' => z_G (d + 1) u 300 1023 ls (r.toList ++ st) w' Q)) := z_gcaV (d := d) (m := 300) (pc := 1020) (m' := 247) (k := 2) (nL := 2) (nx := 1023) (ci := 12) (p := p) (u := u) (ls := ls) (st := st) (w := w) (Q := Q) (vs := [z_r p, z_i x0]) ((zF300_15 1020 (by decide)).trans rfl) rfl rfl
set_option maxRecDepth 100000 in
theorem g300_1023 {d : Nat} {u : Nat × Nat} {ls st : List z_V} {w : z_W} {Q : z_P} {x : Int} : z_G d u 300 1023 ls (z_i x :: st) w Q ↔ z_G d u 300 1024 ls st w Q := z_gun ((zF300_15 1023 (by decide)).trans rfl)
set_option maxRecDepth 100000 in
theorem g300_1023r {d : Nat} {u : Nat × Nat} {ls st : List z_V} {w : z_W} {Q : z_P} {k : Nat} : z_G d u 300 1023 ls (z_r k :: st) w Q ↔ z_G d u 300 1024 ls st w Q := z_gun ((zF300_15 1023 (by decide)).trans rfl)
set_option maxRecDepth 100000 in
theorem g300_1024 {d : Nat} {u : Nat × Nat} {ls st : List z_V} {w : z_W} {Q : z_P} : z_G d u 300 1024 ls st w Q ↔ z_G d u 300 1586 ls st w Q := z_gun ((zF300_15 1024 (by decide)).trans rfl)
set_option maxRecDepth 100000 in
theorem g300_1027 {d : Nat} {u : Nat × Nat} {ls st : List z_V} {w : z_W} {Q : z_P} {o : Option Nat} {a0 : z_V} : z_G d u 300 1027 (a0 :: z_vr o :: ls) st w Q ↔ z_G d u 300 1028 (a0 :: z_vr o :: ls) (z_vr o :: st) w Q := z_gun ((zF300_15 1027 (by decide)).trans rfl)
set_option maxRecDepth 100000 in
theorem g300_1027r {d : Nat} {u : Nat × Nat} {ls st : List z_V} {w : z_W} {Q : z_P} {k : Nat} {a0 : z_V} : z_G d u 300 1027 (a0 :: z_r k :: ls) st w Q ↔ z_G d u 300 1028 (a0 :: z_r k :: ls) (z_r k :: st) w Q := z_gun ((zF300_15 1027 (by decide)).trans rfl)
set_option maxRecDepth 100000 in
theorem g300_1028 {d : Nat} {u : Nat × Nat} {ls st : List z_V} {w : z_W} {Q : z_P} {p : Nat} : z_G (d + 1) u 300 1028 ls (z_r p :: st) w Q ↔ (z_k w p = 11 ∧ z_c8 st 8 = true ∧ z_G d (0, 0) 147 0 [z_r p] [] w (fun r w' => z_G (d + 1) u 300 1031 ls (r.toList ++ st) w' Q)) := z_gcaV (d := d) (m := 300) (pc := 1028) (m' := 147) (k := 1) (nL := 1) (nx := 1031) (ci := 11) (p := p) (u := u) (ls := ls) (st := st) (w := w) (Q := Q) (vs := [z_r p]) ((zF300_15 1028 (by decide)).trans rfl) rfl rfl
set_option maxRecDepth 100000 in
theorem g300_1031 {d : Nat} {u : Nat × Nat} {ls st : List z_V} {w : z_W} {Q : z_P} {x : Int} : z_G d u 300 1031 ls (z_i x :: st) w Q ↔ z_G d u 300 1032 ls st w Q := z_gun ((zF300_15 1031 (by decide)).trans rfl)
set_option maxRecDepth 100000 in
theorem g300_1031r {d : Nat} {u : Nat × Nat} {ls st : List z_V} {w : z_W} {Q : z_P} {k : Nat} : z_G d u 300 1031 ls (z_r k :: st) w Q ↔ z_G d u 300 1032 ls st w Q := z_gun ((zF300_15 1031 (by decide)).trans rfl)
set_option maxRecDepth 100000 in
theorem g300_1032 {d : Nat} {u : Nat × Nat} {ls st : List z_V} {w : z_W} {Q : z_P} {o : Option Nat} {a0 a1 : z_V} : z_G d u 300 1032 (a0 :: a1 :: z_vr o :: ls) st w Q ↔ z_G d u 300 1033 (a0 :: a1 :: z_vr o :: ls) (z_vr o :: st) w Q := z_gun ((zF300_15 1032 (by decide)).trans rfl)
set_option maxRecDepth 100000 in
theorem g300_1032r {d : Nat} {u : Nat × Nat} {ls st : List z_V} {w : z_W} {Q : z_P} {k : Nat} {a0 a1 : z_V} : z_G d u 300 1032 (a0 :: a1 :: z_r k :: ls) st w Q ↔ z_G d u 300 1033 (a0 :: a1 :: z_r k :: ls) (z_r k :: st) w Q := z_gun ((zF300_15 1032 (by decide)).trans rfl)
set_option maxRecDepth 100000 in
theorem g300_1033 {d : Nat} {u : Nat × Nat} {ls st : List z_V} {w : z_W} {Q : z_P} {p : Nat} : z_G (d + 1) u 300 1033 ls (z_r p :: st) w Q ↔ (z_k w p = 12 ∧ z_c8 st 8 = true ∧ z_G d (0, 0) 248 0 [z_r p, z_x] [] w (fun r w' => z_G (d + 1) u 300 1036 ls (r.toList ++ st) w' Q)) := z_gcaV (d := d) (m := 300) (pc := 1033) (m' := 248) (k := 1) (nL := 2) (nx := 1036) (ci := 12) (p := p) (u := u) (ls := ls) (st := st) (w := w) (Q := Q) (vs := [z_r p]) ((zF300_15 1033 (by decide)).trans rfl) rfl rfl
set_option maxRecDepth 100000 in
theorem g300_1036 {d : Nat} {u : Nat × Nat} {ls st : List z_V} {w : z_W} {Q : z_P} {x : Int} : z_G d u 300 1036 ls (z_i x :: st) w Q ↔ z_G d u 300 1037 ls st w Q := z_gun ((zF300_15 1036 (by decide)).trans rfl)
set_option maxRecDepth 100000 in
theorem g300_1036r {d : Nat} {u : Nat × Nat} {ls st : List z_V} {w : z_W} {Q : z_P} {k : Nat} : z_G d u 300 1036 ls (z_r k :: st) w Q ↔ z_G d u 300 1037 ls st w Q := z_gun ((zF300_15 1036 (by decide)).trans rfl)
set_option maxRecDepth 100000 in
theorem g300_1037 {d : Nat} {u : Nat × Nat} {ls st : List z_V} {w : z_W} {Q : z_P} : z_G d u 300 1037 ls st w Q ↔ z_G d u 300 1586 ls st w Q := z_gun ((zF300_15 1037 (by decide)).trans rfl)
set_option maxRecDepth 100000 in
theorem g300_1040 {d : Nat} {u : Nat × Nat} {ls st : List z_V} {w : z_W} {Q : z_P} {o : Option Nat} {a0 : z_V} : z_G d u 300 1040 (a0 :: z_vr o :: ls) st w Q ↔ z_G d u 300 1041 (a0 :: z_vr o :: ls) (z_vr o :: st) w Q := z_gun ((zF300_15 1040 (by decide)).trans rfl)
set_option maxRecDepth 100000 in
theorem g300_1040r {d : Nat} {u : Nat × Nat} {ls st : List z_V} {w : z_W} {Q : z_P} {k : Nat} {a0 : z_V} : z_G d u 300 1040 (a0 :: z_r k :: ls) st w Q ↔ z_G d u 300 1041 (a0 :: z_r k :: ls) (z_r k :: st) w Q := z_gun ((zF300_15 1040 (by decide)).trans rfl)
set_option maxRecDepth 100000 in
theorem g300_1041 {d : Nat} {u : Nat × Nat} {ls st : List z_V} {w : z_W} {Q : z_P} {o : Option Nat} : z_G d u 300 1041 (z_vr o :: ls) st w Q ↔ z_G d u 300 1042 (z_vr o :: ls) (z_vr o :: st) w Q := z_gun ((zF300_15 1041 (by decide)).trans rfl)
set_option maxRecDepth 100000 in
theorem g300_1041r {d : Nat} {u : Nat × Nat} {ls st : List z_V} {w : z_W} {Q : z_P} {k : Nat} : z_G d u 300 1041 (z_r k :: ls) st w Q ↔ z_G d u 300 1042 (z_r k :: ls) (z_r k :: st) w Q := z_gun ((zF300_15 1041 (by decide)).trans rfl)
set_option maxRecDepth 100000 in
theorem g300_1042 {d : Nat} {u : Nat × Nat} {ls st : List z_V} {w : z_W} {Q : z_P} {z : Int} {a0 a1 a2 a3 : z_V} : z_G d u 300 1042 (a0 :: a1 :: a2 :: a3 :: z_i z :: ls) st w Q ↔ z_G d u 300 1044 (a0 :: a1 :: a2 :: a3 :: z_i z :: ls) (z_i z :: st) w Q := z_gun ((zF300_15 1042 (by decide)).trans rfl)
set_option maxRecDepth 100000 in
theorem g300_1044 {d : Nat} {u : Nat × Nat} {ls st : List z_V} {w : z_W} {Q : z_P} : z_G d u 300 1044 ls st w Q ↔ z_G d u 300 1045 ls (z_i (1) :: st) w Q := z_gun ((zF300_16 1044 (by decide)).trans rfl)
set_option maxRecDepth 100000 in
theorem g300_1045 {d : Nat} {u : Nat × Nat} {ls st : List z_V} {w : z_W} {Q : z_P} {x y : Int} : z_G d u 300 1045 ls (z_i y :: z_i x :: st) w Q ↔ z_G d u 300 1046 ls (z_i (z_add x y) :: st) w Q := z_gun ((zF300_16 1045 (by decide)).trans rfl)
set_option maxRecDepth 100000 in
theorem g300_1046 {d : Nat} {u : Nat × Nat} {ls st : List z_V} {w : z_W} {Q : z_P} {p : Nat} {i : Int} : z_G d u 300 1046 ls (z_i i :: z_r p :: st) w Q ↔ ((z_k w p = 100 ∨ z_k w p = 103) ∧ 0 ≤ i ∧ i < z_len w p ∧ (z_rg (z_I w p i) → z_G d u 300 1047 ls (z_i (z_I w p i) :: st) w Q)) := z_gun ((zF300_16 1046 (by decide)).trans rfl)
set_option maxRecDepth 100000 in
theorem g300_1047 {d : Nat} {u : Nat × Nat} {ls st : List z_V} {w : z_W} {Q : z_P} {o : Option Nat} : z_G d u 300 1047 (z_vr o :: ls) st w Q ↔ z_G d u 300 1048 (z_vr o :: ls) (z_vr o :: st) w Q := z_gun ((zF300_16 1047 (by decide)).trans rfl)
set_option maxRecDepth 100000 in
theorem g300_1047r {d : Nat} {u : Nat × Nat} {ls st : List z_V} {w : z_W} {Q : z_P} {k : Nat} : z_G d u 300 1047 (z_r k :: ls) st w Q ↔ z_G d u 300 1048 (z_r k :: ls) (z_r k :: st) w Q := z_gun ((zF300_16 1047 (by decide)).trans rfl)
set_option maxRecDepth 100000 in
theorem g300_1048 {d : Nat} {u : Nat × Nat} {ls st : List z_V} {w : z_W} {Q : z_P} {z : Int} {a0 a1 a2 a3 : z_V} : z_G d u 300 1048 (a0 :: a1 :: a2 :: a3 :: z_i z :: ls) st w Q ↔ z_G d u 300 1050 (a0 :: a1 :: a2 :: a3 :: z_i z :: ls) (z_i z :: st) w Q := z_gun ((zF300_16 1048 (by decide)).trans rfl)
set_option maxRecDepth 100000 in
theorem g300_1050 {d : Nat} {u : Nat × Nat} {ls st : List z_V} {w : z_W} {Q : z_P} : z_G d u 300 1050 ls st w Q ↔ z_G d u 300 1051 ls (z_i (2) :: st) w Q := z_gun ((zF300_16 1050 (by decide)).trans rfl)
set_option maxRecDepth 100000 in
theorem g300_1051 {d : Nat} {u : Nat × Nat} {ls st : List z_V} {w : z_W} {Q : z_P} {x y : Int} : z_G d u 300 1051 ls (z_i y :: z_i x :: st) w Q ↔ z_G d u 300 1052 ls (z_i (z_add x y) :: st) w Q := z_gun ((zF300_16 1051 (by decide)).trans rfl)
set_option maxRecDepth 100000 in
theorem g300_1052 {d : Nat} {u : Nat × Nat} {ls st : List z_V} {w : z_W} {Q : z_P} {p : Nat} {i : Int} : z_G d u 300 1052 ls (z_i i :: z_r p :: st) w Q ↔ ((z_k w p = 100 ∨ z_k w p = 103) ∧ 0 ≤ i ∧ i < z_len w p ∧ (z_rg (z_I w p i) → z_G d u 300 1053 ls (z_i (z_I w p i) :: st) w Q)) := z_gun ((zF300_16 1052 (by decide)).trans rfl)
set_option maxRecDepth 100000 in
theorem g300_1053 {d : Nat} {u : Nat × Nat} {ls st : List z_V} {w : z_W} {Q : z_P} {p : Nat} {x0 x1 : Int} : z_G (d + 1) u 300 1053 ls (z_i x1 :: z_i x0 :: z_r p :: st) w Q ↔ (z_k w p = 11 ∧ z_c8 st 8 = true ∧ z_G d (0, 0) 148 0 [z_r p, z_i x0, z_i x1] [] w (fun r w' => z_G (d + 1) u 300 1056 ls (r.toList ++ st) w' Q)) := z_gcaV (d := d) (m := 300) (pc := 1053) (m' := 148) (k := 3) (nL := 3) (nx := 1056) (ci := 11) (p := p) (u := u) (ls := ls) (st := st) (w := w) (Q := Q) (vs := [z_r p, z_i x0, z_i x1]) ((zF300_16 1053 (by decide)).trans rfl) rfl rfl
set_option maxRecDepth 100000 in
theorem g300_1056 {d : Nat} {u : Nat × Nat} {ls st : List z_V} {w : z_W} {Q : z_P} {x : Int} : z_G d u 300 1056 ls (z_i x :: st) w Q ↔ z_G d u 300 1057 ls st w Q := z_gun ((zF300_16 1056 (by decide)).trans rfl)
set_option maxRecDepth 100000 in
theorem g300_1056r {d : Nat} {u : Nat × Nat} {ls st : List z_V} {w : z_W} {Q : z_P} {k : Nat} : z_G d u 300 1056 ls (z_r k :: st) w Q ↔ z_G d u 300 1057 ls st w Q := z_gun ((zF300_16 1056 (by decide)).trans rfl)
set_option maxRecDepth 100000 in
theorem g300_1057 {d : Nat} {u : Nat × Nat} {ls st : List z_V} {w : z_W} {Q : z_P} {o : Option Nat} {a0 a1 : z_V} : z_G d u 300 1057 (a0 :: a1 :: z_vr o :: ls) st w Q ↔ z_G d u 300 1058 (a0 :: a1 :: z_vr o :: ls) (z_vr o :: st) w Q := z_gun ((zF300_16 1057 (by decide)).trans rfl)
set_option maxRecDepth 100000 in
theorem g300_1057r {d : Nat} {u : Nat × Nat} {ls st : List z_V} {w : z_W} {Q : z_P} {k : Nat} {a0 a1 : z_V} : z_G d u 300 1057 (a0 :: a1 :: z_r k :: ls) st w Q ↔ z_G d u 300 1058 (a0 :: a1 :: z_r k :: ls) (z_r k :: st) w Q := z_gun ((zF300_16 1057 (by decide)).trans rfl)
set_option maxRecDepth 100000 in
theorem g300_1058 {d : Nat} {u : Nat × Nat} {ls st : List z_V} {w : z_W} {Q : z_P} {o : Option Nat} : z_G d u 300 1058 (z_vr o :: ls) st w Q ↔ z_G d u 300 1059 (z_vr o :: ls) (z_vr o :: st) w Q := z_gun ((zF300_16 1058 (by decide)).trans rfl)
set_option maxRecDepth 100000 in
theorem g300_1058r {d : Nat} {u : Nat × Nat} {ls st : List z_V} {w : z_W} {Q : z_P} {k : Nat} : z_G d u 300 1058 (z_r k :: ls) st w Q ↔ z_G d u 300 1059 (z_r k :: ls) (z_r k :: st) w Q := z_gun ((zF300_16 1058 (by decide)).trans rfl)
set_option maxRecDepth 100000 in
theorem g300_1059 {d : Nat} {u : Nat × Nat} {ls st : List z_V} {w : z_W} {Q : z_P} {z : Int} {a0 a1 a2 a3 : z_V} : z_G d u 300 1059 (a0 :: a1 :: a2 :: a3 :: z_i z :: ls) st w Q ↔ z_G d u 300 1061 (a0 :: a1 :: a2 :: a3 :: z_i z :: ls) (z_i z :: st) w Q := z_gun ((zF300_16 1059 (by decide)).trans rfl)
set_option maxRecDepth 100000 in
theorem g300_1061 {d : Nat} {u : Nat × Nat} {ls st : List z_V} {w : z_W} {Q : z_P} : z_G d u 300 1061 ls st w Q ↔ z_G d u 300 1062 ls (z_i (1) :: st) w Q := z_gun ((zF300_16 1061 (by decide)).trans rfl)
set_option maxRecDepth 100000 in
theorem g300_1062 {d : Nat} {u : Nat × Nat} {ls st : List z_V} {w : z_W} {Q : z_P} {x y : Int} : z_G d u 300 1062 ls (z_i y :: z_i x :: st) w Q ↔ z_G d u 300 1063 ls (z_i (z_add x y) :: st) w Q := z_gun ((zF300_16 1062 (by decide)).trans rfl)
set_option maxRecDepth 100000 in
theorem g300_1063 {d : Nat} {u : Nat × Nat} {ls st : List z_V} {w : z_W} {Q : z_P} {p : Nat} {i : Int} : z_G d u 300 1063 ls (z_i i :: z_r p :: st) w Q ↔ ((z_k w p = 100 ∨ z_k w p = 103) ∧ 0 ≤ i ∧ i < z_len w p ∧ (z_rg (z_I w p i) → z_G d u 300 1064 ls (z_i (z_I w p i) :: st) w Q)) := z_gun ((zF300_16 1063 (by decide)).trans rfl)
set_option maxRecDepth 100000 in
theorem g300_1064 {d : Nat} {u : Nat × Nat} {ls st : List z_V} {w : z_W} {Q : z_P} {o : Option Nat} : z_G d u 300 1064 (z_vr o :: ls) st w Q ↔ z_G d u 300 1065 (z_vr o :: ls) (z_vr o :: st) w Q := z_gun ((zF300_16 1064 (by decide)).trans rfl)
set_option maxRecDepth 100000 in
theorem g300_1064r {d : Nat} {u : Nat × Nat} {ls st : List z_V} {w : z_W} {Q : z_P} {k : Nat} : z_G d u 300 1064 (z_r k :: ls) st w Q ↔ z_G d u 300 1065 (z_r k :: ls) (z_r k :: st) w Q := z_gun ((zF300_16 1064 (by decide)).trans rfl)
set_option maxRecDepth 100000 in
theorem g300_1065 {d : Nat} {u : Nat × Nat} {ls st : List z_V} {w : z_W} {Q : z_P} {z : Int} {a0 a1 a2 a3 : z_V} : z_G d u 300 1065 (a0 :: a1 :: a2 :: a3 :: z_i z :: ls) st w Q ↔ z_G d u 300 1067 (a0 :: a1 :: a2 :: a3 :: z_i z :: ls) (z_i z :: st) w Q := z_gun ((zF300_16 1065 (by decide)).trans rfl)
set_option maxRecDepth 100000 in
theorem g300_1067 {d : Nat} {u : Nat × Nat} {ls st : List z_V} {w : z_W} {Q : z_P} : z_G d u 300 1067 ls st w Q ↔ z_G d u 300 1068 ls (z_i (2) :: st) w Q := z_gun ((zF300_16 1067 (by decide)).trans rfl)
set_option maxRecDepth 100000 in
theorem g300_1068 {d : Nat} {u : Nat × Nat} {ls st : List z_V} {w : z_W} {Q : z_P} {x y : Int} : z_G d u 300 1068 ls (z_i y :: z_i x :: st) w Q ↔ z_G d u 300 1069 ls (z_i (z_add x y) :: st) w Q := z_gun ((zF300_16 1068 (by decide)).trans rfl)
set_option maxRecDepth 100000 in
theorem g300_1069 {d : Nat} {u : Nat × Nat} {ls st : List z_V} {w : z_W} {Q : z_P} {p : Nat} {i : Int} : z_G d u 300 1069 ls (z_i i :: z_r p :: st) w Q ↔ ((z_k w p = 100 ∨ z_k w p = 103) ∧ 0 ≤ i ∧ i < z_len w p ∧ (z_rg (z_I w p i) → z_G d u 300 1070 ls (z_i (z_I w p i) :: st) w Q)) := z_gun ((zF300_16 1069 (by decide)).trans rfl)
set_option maxRecDepth 100000 in
theorem g300_1070 {d : Nat} {u : Nat × Nat} {ls st : List z_V} {w : z_W} {Q : z_P} {p : Nat} {x0 x1 : Int} : z_G (d + 1) u 300 1070 ls (z_i x1 :: z_i x0 :: z_r p :: st) w Q ↔ (z_k w p = 12 ∧ z_c8 st 8 = true ∧ z_G d (0, 0) 249 0 [z_r p, z_i x0, z_i x1] [] w (fun r w' => z_G (d + 1) u 300 1073 ls (r.toList ++ st) w' Q)) := z_gcaV (d := d) (m := 300) (pc := 1070) (m' := 249) (k := 3) (nL := 3) (nx := 1073) (ci := 12) (p := p) (u := u) (ls := ls) (st := st) (w := w) (Q := Q) (vs := [z_r p, z_i x0, z_i x1]) ((zF300_16 1070 (by decide)).trans rfl) rfl rfl
set_option maxRecDepth 100000 in
theorem g300_1073 {d : Nat} {u : Nat × Nat} {ls st : List z_V} {w : z_W} {Q : z_P} {x : Int} : z_G d u 300 1073 ls (z_i x :: st) w Q ↔ z_G d u 300 1074 ls st w Q := z_gun ((zF300_16 1073 (by decide)).trans rfl)
set_option maxRecDepth 100000 in
theorem g300_1073r {d : Nat} {u : Nat × Nat} {ls st : List z_V} {w : z_W} {Q : z_P} {k : Nat} : z_G d u 300 1073 ls (z_r k :: st) w Q ↔ z_G d u 300 1074 ls st w Q := z_gun ((zF300_16 1073 (by decide)).trans rfl)
set_option maxRecDepth 100000 in
theorem g300_1074 {d : Nat} {u : Nat × Nat} {ls st : List z_V} {w : z_W} {Q : z_P} : z_G d u 300 1074 ls st w Q ↔ z_G d u 300 1586 ls st w Q := z_gun ((zF300_16 1074 (by decide)).trans rfl)
set_option maxRecDepth 100000 in
theorem g300_1077 {d : Nat} {u : Nat × Nat} {ls st : List z_V} {w : z_W} {Q : z_P} {o : Option Nat} {a0 : z_V} : z_G d u 300 1077 (a0 :: z_vr o :: ls) st w Q ↔ z_G d u 300 1078 (a0 :: z_vr o :: ls) (z_vr o :: st) w Q := z_gun ((zF300_16 1077 (by decide)).trans rfl)
set_option maxRecDepth 100000 in
theorem g300_1077r {d : Nat} {u : Nat × Nat} {ls st : List z_V} {w : z_W} {Q : z_P} {k : Nat} {a0 : z_V} : z_G d u 300 1077 (a0 :: z_r k :: ls) st w Q ↔ z_G d u 300 1078 (a0 :: z_r k :: ls) (z_r k :: st) w Q := z_gun ((zF300_16 1077 (by decide)).trans rfl)
set_option maxRecDepth 100000 in
theorem g300_1078 {d : Nat} {u : Nat × Nat} {ls st : List z_V} {w : z_W} {Q : z_P} {p : Nat} : z_G (d + 1) u 300 1078 ls (z_r p :: st) w Q ↔ (z_k w p = 11 ∧ z_c8 st 8 = true ∧ z_G d (0, 0) 149 0 [z_r p] [] w (fun r w' => z_G (d + 1) u 300 1081 ls (r.toList ++ st) w' Q)) := z_gcaV (d := d) (m := 300) (pc := 1078) (m' := 149) (k := 1) (nL := 1) (nx := 1081) (ci := 11) (p := p) (u := u) (ls := ls) (st := st) (w := w) (Q := Q) (vs := [z_r p]) ((zF300_16 1078 (by decide)).trans rfl) rfl rfl
set_option maxRecDepth 100000 in
theorem g300_1081 {d : Nat} {u : Nat × Nat} {ls st : List z_V} {w : z_W} {Q : z_P} {x : Int} : z_G d u 300 1081 ls (z_i x :: st) w Q ↔ z_G d u 300 1082 ls st w Q := z_gun ((zF300_16 1081 (by decide)).trans rfl)
set_option maxRecDepth 100000 in
theorem g300_1081r {d : Nat} {u : Nat × Nat} {ls st : List z_V} {w : z_W} {Q : z_P} {k : Nat} : z_G d u 300 1081 ls (z_r k :: st) w Q ↔ z_G d u 300 1082 ls st w Q := z_gun ((zF300_16 1081 (by decide)).trans rfl)
set_option maxRecDepth 100000 in
theorem g300_1082 {d : Nat} {u : Nat × Nat} {ls st : List z_V} {w : z_W} {Q : z_P} {o : Option Nat} {a0 a1 : z_V} : z_G d u 300 1082 (a0 :: a1 :: z_vr o :: ls) st w Q ↔ z_G d u 300 1083 (a0 :: a1 :: z_vr o :: ls) (z_vr o :: st) w Q := z_gun ((zF300_16 1082 (by decide)).trans rfl)
set_option maxRecDepth 100000 in
theorem g300_1082r {d : Nat} {u : Nat × Nat} {ls st : List z_V} {w : z_W} {Q : z_P} {k : Nat} {a0 a1 : z_V} : z_G d u 300 1082 (a0 :: a1 :: z_r k :: ls) st w Q ↔ z_G d u 300 1083 (a0 :: a1 :: z_r k :: ls) (z_r k :: st) w Q := z_gun ((zF300_16 1082 (by decide)).trans rfl)
set_option maxRecDepth 100000 in
theorem g300_1083 {d : Nat} {u : Nat × Nat} {ls st : List z_V} {w : z_W} {Q : z_P} {p : Nat} : z_G (d + 1) u 300 1083 ls (z_r p :: st) w Q ↔ (z_k w p = 12 ∧ z_c8 st 8 = true ∧ z_G d (0, 0) 264 0 [z_r p, z_x, z_x] [] w (fun r w' => z_G (d + 1) u 300 1086 ls (r.toList ++ st) w' Q)) := z_gcaV (d := d) (m := 300) (pc := 1083) (m' := 264) (k := 1) (nL := 3) (nx := 1086) (ci := 12) (p := p) (u := u) (ls := ls) (st := st) (w := w) (Q := Q) (vs := [z_r p]) ((zF300_16 1083 (by decide)).trans rfl) rfl rfl
set_option maxRecDepth 100000 in
theorem g300_1086 {d : Nat} {u : Nat × Nat} {ls st : List z_V} {w : z_W} {Q : z_P} {x : Int} : z_G d u 300 1086 ls (z_i x :: st) w Q ↔ z_G d u 300 1087 ls st w Q := z_gun ((zF300_16 1086 (by decide)).trans rfl)
set_option maxRecDepth 100000 in
theorem g300_1086r {d : Nat} {u : Nat × Nat} {ls st : List z_V} {w : z_W} {Q : z_P} {k : Nat} : z_G d u 300 1086 ls (z_r k :: st) w Q ↔ z_G d u 300 1087 ls st w Q := z_gun ((zF300_16 1086 (by decide)).trans rfl)
set_option maxRecDepth 100000 in
theorem g300_1087 {d : Nat} {u : Nat × Nat} {ls st : List z_V} {w : z_W} {Q : z_P} : z_G d u 300 1087 ls st w Q ↔ z_G d u 300 1586 ls st w Q := z_gun ((zF300_16 1087 (by decide)).trans rfl)
set_option maxRecDepth 100000 in
theorem g300_1090 {d : Nat} {u : Nat × Nat} {ls st : List z_V} {w : z_W} {Q : z_P} {o : Option Nat} {a0 : z_V} : z_G d u 300 1090 (a0 :: z_vr o :: ls) st w Q ↔ z_G d u 300 1091 (a0 :: z_vr o :: ls) (z_vr o :: st) w Q := z_gun ((zF300_16 1090 (by decide)).trans rfl)
set_option maxRecDepth 100000 in
theorem g300_1090r {d : Nat} {u : Nat × Nat} {ls st : List z_V} {w : z_W} {Q : z_P} {k : Nat} {a0 : z_V} : z_G d u 300 1090 (a0 :: z_r k :: ls) st w Q ↔ z_G d u 300 1091 (a0 :: z_r k :: ls) (z_r k :: st) w Q := z_gun ((zF300_16 1090 (by decide)).trans rfl)
set_option maxRecDepth 100000 in
theorem g300_1091 {d : Nat} {u : Nat × Nat} {ls st : List z_V} {w : z_W} {Q : z_P} {o : Option Nat} : z_G d u 300 1091 (z_vr o :: ls) st w Q ↔ z_G d u 300 1092 (z_vr o :: ls) (z_vr o :: st) w Q := z_gun ((zF300_16 1091 (by decide)).trans rfl)
set_option maxRecDepth 100000 in
theorem g300_1091r {d : Nat} {u : Nat × Nat} {ls st : List z_V} {w : z_W} {Q : z_P} {k : Nat} : z_G d u 300 1091 (z_r k :: ls) st w Q ↔ z_G d u 300 1092 (z_r k :: ls) (z_r k :: st) w Q := z_gun ((zF300_16 1091 (by decide)).trans rfl)
set_option maxRecDepth 100000 in
theorem g300_1092 {d : Nat} {u : Nat × Nat} {ls st : List z_V} {w : z_W} {Q : z_P} {z : Int} {a0 a1 a2 a3 : z_V} : z_G d u 300 1092 (a0 :: a1 :: a2 :: a3 :: z_i z :: ls) st w Q ↔ z_G d u 300 1094 (a0 :: a1 :: a2 :: a3 :: z_i z :: ls) (z_i z :: st) w Q := z_gun ((zF300_16 1092 (by decide)).trans rfl)
set_option maxRecDepth 100000 in
theorem g300_1094 {d : Nat} {u : Nat × Nat} {ls st : List z_V} {w : z_W} {Q : z_P} : z_G d u 300 1094 ls st w Q ↔ z_G d u 300 1095 ls (z_i (1) :: st) w Q := z_gun ((zF300_16 1094 (by decide)).trans rfl)
set_option maxRecDepth 100000 in
theorem g300_1095 {d : Nat} {u : Nat × Nat} {ls st : List z_V} {w : z_W} {Q : z_P} {x y : Int} : z_G d u 300 1095 ls (z_i y :: z_i x :: st) w Q ↔ z_G d u 300 1096 ls (z_i (z_add x y) :: st) w Q := z_gun ((zF300_16 1095 (by decide)).trans rfl)
set_option maxRecDepth 100000 in
theorem g300_1096 {d : Nat} {u : Nat × Nat} {ls st : List z_V} {w : z_W} {Q : z_P} {p : Nat} {i : Int} : z_G d u 300 1096 ls (z_i i :: z_r p :: st) w Q ↔ ((z_k w p = 100 ∨ z_k w p = 103) ∧ 0 ≤ i ∧ i < z_len w p ∧ (z_rg (z_I w p i) → z_G d u 300 1097 ls (z_i (z_I w p i) :: st) w Q)) := z_gun ((zF300_16 1096 (by decide)).trans rfl)
set_option maxRecDepth 100000 in
theorem g300_1097 {d : Nat} {u : Nat × Nat} {ls st : List z_V} {w : z_W} {Q : z_P} {p : Nat} {x0 : Int} : z_G (d + 1) u 300 1097 ls (z_i x0 :: z_r p :: st) w Q ↔ (z_k w p = 11 ∧ z_c8 st 8 = true ∧ z_G d (0, 0) 150 0 [z_r p, z_i x0, z_x] [] w (fun r w' => z_G (d + 1) u 300 1100 ls (r.toList ++ st) w' Q)) := z_gcaV (d := d) (m := 300) (pc := 1097) (m' := 150) (k := 2) (nL := 3) (nx := 1100) (ci := 11) (p := p) (u := u) (ls := ls) (st := st) (w := w) (Q := Q) (vs := [z_r p, z_i x0]) ((zF300_16 1097 (by decide)).trans rfl) rfl rfl
set_option maxRecDepth 100000 in
theorem g300_1100 {d : Nat} {u : Nat × Nat} {ls st : List z_V} {w : z_W} {Q : z_P} {x : Int} : z_G d u 300 1100 ls (z_i x :: st) w Q ↔ z_G d u 300 1101 ls st w Q := z_gun ((zF300_16 1100 (by decide)).trans rfl)
set_option maxRecDepth 100000 in
theorem g300_1100r {d : Nat} {u : Nat × Nat} {ls st : List z_V} {w : z_W} {Q : z_P} {k : Nat} : z_G d u 300 1100 ls (z_r k :: st) w Q ↔ z_G d u 300 1101 ls st w Q := z_gun ((zF300_16 1100 (by decide)).trans rfl)
set_option maxRecDepth 100000 in
theorem g300_1101 {d : Nat} {u : Nat × Nat} {ls st : List z_V} {w : z_W} {Q : z_P} {o : Option Nat} {a0 a1 : z_V} : z_G d u 300 1101 (a0 :: a1 :: z_vr o :: ls) st w Q ↔ z_G d u 300 1102 (a0 :: a1 :: z_vr o :: ls) (z_vr o :: st) w Q := z_gun ((zF300_16 1101 (by decide)).trans rfl)
set_option maxRecDepth 100000 in
theorem g300_1101r {d : Nat} {u : Nat × Nat} {ls st : List z_V} {w : z_W} {Q : z_P} {k : Nat} {a0 a1 : z_V} : z_G d u 300 1101 (a0 :: a1 :: z_r k :: ls) st w Q ↔ z_G d u 300 1102 (a0 :: a1 :: z_r k :: ls) (z_r k :: st) w Q := z_gun ((zF300_16 1101 (by decide)).trans rfl)
set_option maxRecDepth 100000 in
theorem g300_1102 {d : Nat} {u : Nat × Nat} {ls st : List z_V} {w : z_W} {Q : z_P} {o : Option Nat} : z_G d u 300 1102 (z_vr o :: ls) st w Q ↔ z_G d u 300 1103 (z_vr o :: ls) (z_vr o :: st) w Q := z_gun ((zF300_17 1102 (by decide)).trans rfl)
set_option maxRecDepth 100000 in
theorem g300_1102r {d : Nat} {u : Nat × Nat} {ls st : List z_V} {w : z_W} {Q : z_P} {k : Nat} : z_G d u 300 1102 (z_r k :: ls) st w Q ↔ z_G d u 300 1103 (z_r k :: ls) (z_r k :: st) w Q := z_gun ((zF300_17 1102 (by decide)).trans rfl)
set_option maxRecDepth 100000 in
theorem g300_1103 {d : Nat} {u : Nat × Nat} {ls st : List z_V} {w : z_W} {Q : z_P} {z : Int} {a0 a1 a2 a3 : z_V} : z_G d u 300 1103 (a0 :: a1 :: a2 :: a3 :: z_i z :: ls) st w Q ↔ z_G d u 300 1105 (a0 :: a1 :: a2 :: a3 :: z_i z :: ls) (z_i z :: st) w Q := z_gun ((zF300_17 1103 (by decide)).trans rfl)
set_option maxRecDepth 100000 in
theorem g300_1105 {d : Nat} {u : Nat × Nat} {ls st : List z_V} {w : z_W} {Q : z_P} : z_G d u 300 1105 ls st w Q ↔ z_G d u 300 1106 ls (z_i (1) :: st) w Q := z_gun ((zF300_17 1105 (by decide)).trans rfl)
set_option maxRecDepth 100000 in
theorem g300_1106 {d : Nat} {u : Nat × Nat} {ls st : List z_V} {w : z_W} {Q : z_P} {x y : Int} : z_G d u 300 1106 ls (z_i y :: z_i x :: st) w Q ↔ z_G d u 300 1107 ls (z_i (z_add x y) :: st) w Q := z_gun ((zF300_17 1106 (by decide)).trans rfl)
set_option maxRecDepth 100000 in
theorem g300_1107 {d : Nat} {u : Nat × Nat} {ls st : List z_V} {w : z_W} {Q : z_P} {p : Nat} {i : Int} : z_G d u 300 1107 ls (z_i i :: z_r p :: st) w Q ↔ ((z_k w p = 100 ∨ z_k w p = 103) ∧ 0 ≤ i ∧ i < z_len w p ∧ (z_rg (z_I w p i) → z_G d u 300 1108 ls (z_i (z_I w p i) :: st) w Q)) := z_gun ((zF300_17 1107 (by decide)).trans rfl)
set_option maxRecDepth 100000 in
theorem g300_1108 {d : Nat} {u : Nat × Nat} {ls st : List z_V} {w : z_W} {Q : z_P} {p : Nat} {x0 : Int} : z_G (d + 1) u 300 1108 ls (z_i x0 :: z_r p :: st) w Q ↔ (z_k w p = 12 ∧ z_c8 st 8 = true ∧ z_G d (0, 0) 266 0 [z_r p, z_i x0] [] w (fun r w' => z_G (d + 1) u 300 1111 ls (r.toList ++ st) w' Q)) := z_gcaV (d := d) (m := 300) (pc := 1108) (m' := 266) (k := 2) (nL := 2) (nx := 1111) (ci := 12) (p := p) (u := u) (ls := ls) (st := st) (w := w) (Q := Q) (vs := [z_r p, z_i x0]) ((zF300_17 1108 (by decide)).trans rfl) rfl rfl
set_option maxRecDepth 100000 in
theorem g300_1111 {d : Nat} {u : Nat × Nat} {ls st : List z_V} {w : z_W} {Q : z_P} {x : Int} : z_G d u 300 1111 ls (z_i x :: st) w Q ↔ z_G d u 300 1112 ls st w Q := z_gun ((zF300_17 1111 (by decide)).trans rfl)
set_option maxRecDepth 100000 in
theorem g300_1111r {d : Nat} {u : Nat × Nat} {ls st : List z_V} {w : z_W} {Q : z_P} {k : Nat} : z_G d u 300 1111 ls (z_r k :: st) w Q ↔ z_G d u 300 1112 ls st w Q := z_gun ((zF300_17 1111 (by decide)).trans rfl)
set_option maxRecDepth 100000 in
theorem g300_1112 {d : Nat} {u : Nat × Nat} {ls st : List z_V} {w : z_W} {Q : z_P} : z_G d u 300 1112 ls st w Q ↔ z_G d u 300 1586 ls st w Q := z_gun ((zF300_17 1112 (by decide)).trans rfl)
set_option maxRecDepth 100000 in
theorem g300_1115 {d : Nat} {u : Nat × Nat} {ls st : List z_V} {w : z_W} {Q : z_P} {o : Option Nat} {a0 : z_V} : z_G d u 300 1115 (a0 :: z_vr o :: ls) st w Q ↔ z_G d u 300 1116 (a0 :: z_vr o :: ls) (z_vr o :: st) w Q := z_gun ((zF300_17 1115 (by decide)).trans rfl)
set_option maxRecDepth 100000 in
theorem g300_1115r {d : Nat} {u : Nat × Nat} {ls st : List z_V} {w : z_W} {Q : z_P} {k : Nat} {a0 : z_V} : z_G d u 300 1115 (a0 :: z_r k :: ls) st w Q ↔ z_G d u 300 1116 (a0 :: z_r k :: ls) (z_r k :: st) w Q := z_gun ((zF300_17 1115 (by decide)).trans rfl)
set_option maxRecDepth 100000 in
theorem g300_1116 {d : Nat} {u : Nat × Nat} {ls st : List z_V} {w : z_W} {Q : z_P} {o : Option Nat} : z_G d u 300 1116 (z_vr o :: ls) st w Q ↔ z_G d u 300 1117 (z_vr o :: ls) (z_vr o :: st) w Q := z_gun ((zF300_17 1116 (by decide)).trans rfl)
set_option maxRecDepth 100000 in
theorem g300_1116r {d : Nat} {u : Nat × Nat} {ls st : List z_V} {w : z_W} {Q : z_P} {k : Nat} : z_G d u 300 1116 (z_r k :: ls) st w Q ↔ z_G d u 300 1117 (z_r k :: ls) (z_r k :: st) w Q := z_gun ((zF300_17 1116 (by decide)).trans rfl)
set_option maxRecDepth 100000 in
theorem g300_1117 {d : Nat} {u : Nat × Nat} {ls st : List z_V} {w : z_W} {Q : z_P} {z : Int} {a0 a1 a2 a3 : z_V} : z_G d u 300 1117 (a0 :: a1 :: a2 :: a3 :: z_i z :: ls) st w Q ↔ z_G d u 300 1119 (a0 :: a1 :: a2 :: a3 :: z_i z :: ls) (z_i z :: st) w Q := z_gun ((zF300_17 1117 (by decide)).trans rfl)
set_option maxRecDepth 100000 in
theorem g300_1119 {d : Nat} {u : Nat × Nat} {ls st : List z_V} {w : z_W} {Q : z_P} : z_G d u 300 1119 ls st w Q ↔ z_G d u 300 1120 ls (z_i (1) :: st) w Q := z_gun ((zF300_17 1119 (by decide)).trans rfl)
set_option maxRecDepth 100000 in
theorem g300_1120 {d : Nat} {u : Nat × Nat} {ls st : List z_V} {w : z_W} {Q : z_P} {x y : Int} : z_G d u 300 1120 ls (z_i y :: z_i x :: st) w Q ↔ z_G d u 300 1121 ls (z_i (z_add x y) :: st) w Q := z_gun ((zF300_17 1120 (by decide)).trans rfl)
set_option maxRecDepth 100000 in
theorem g300_1121 {d : Nat} {u : Nat × Nat} {ls st : List z_V} {w : z_W} {Q : z_P} {p : Nat} {i : Int} : z_G d u 300 1121 ls (z_i i :: z_r p :: st) w Q ↔ ((z_k w p = 100 ∨ z_k w p = 103) ∧ 0 ≤ i ∧ i < z_len w p ∧ (z_rg (z_I w p i) → z_G d u 300 1122 ls (z_i (z_I w p i) :: st) w Q)) := z_gun ((zF300_17 1121 (by decide)).trans rfl)
set_option maxRecDepth 100000 in
theorem g300_1122 {d : Nat} {u : Nat × Nat} {ls st : List z_V} {w : z_W} {Q : z_P} {o : Option Nat} : z_G d u 300 1122 (z_vr o :: ls) st w Q ↔ z_G d u 300 1123 (z_vr o :: ls) (z_vr o :: st) w Q := z_gun ((zF300_17 1122 (by decide)).trans rfl)
set_option maxRecDepth 100000 in
theorem g300_1122r {d : Nat} {u : Nat × Nat} {ls st : List z_V} {w : z_W} {Q : z_P} {k : Nat} : z_G d u 300 1122 (z_r k :: ls) st w Q ↔ z_G d u 300 1123 (z_r k :: ls) (z_r k :: st) w Q := z_gun ((zF300_17 1122 (by decide)).trans rfl)
set_option maxRecDepth 100000 in
theorem g300_1123 {d : Nat} {u : Nat × Nat} {ls st : List z_V} {w : z_W} {Q : z_P} {z : Int} {a0 a1 a2 a3 : z_V} : z_G d u 300 1123 (a0 :: a1 :: a2 :: a3 :: z_i z :: ls) st w Q ↔ z_G d u 300 1125 (a0 :: a1 :: a2 :: a3 :: z_i z :: ls) (z_i z :: st) w Q := z_gun ((zF300_17 1123 (by decide)).trans rfl)
set_option maxRecDepth 100000 in
theorem g300_1125 {d : Nat} {u : Nat × Nat} {ls st : List z_V} {w : z_W} {Q : z_P} : z_G d u 300 1125 ls st w Q ↔ z_G d u 300 1126 ls (z_i (2) :: st) w Q := z_gun ((zF300_17 1125 (by decide)).trans rfl)
set_option maxRecDepth 100000 in
theorem g300_1126 {d : Nat} {u : Nat × Nat} {ls st : List z_V} {w : z_W} {Q : z_P} {x y : Int} : z_G d u 300 1126 ls (z_i y :: z_i x :: st) w Q ↔ z_G d u 300 1127 ls (z_i (z_add x y) :: st) w Q := z_gun ((zF300_17 1126 (by decide)).trans rfl)
set_option maxRecDepth 100000 in
theorem g300_1127 {d : Nat} {u : Nat × Nat} {ls st : List z_V} {w : z_W} {Q : z_P} {p : Nat} {i : Int} : z_G d u 300 1127 ls (z_i i :: z_r p :: st) w Q ↔ ((z_k w p = 100 ∨ z_k w p = 103) ∧ 0 ≤ i ∧ i < z_len w p ∧ (z_rg (z_I w p i) → z_G d u 300 1128 ls (z_i (z_I w p i) :: st) w Q)) := z_gun ((zF300_17 1127 (by decide)).trans rfl)
set_option maxRecDepth 100000 in
theorem g300_1128 {d : Nat} {u : Nat × Nat} {ls st : List z_V} {w : z_W} {Q : z_P} {p : Nat} {x0 x1 : Int} : z_G (d + 1) u 300 1128 ls (z_i x1 :: z_i x0 :: z_r p :: st) w Q ↔ (z_k w p = 11 ∧ z_c8 st 8 = true ∧ z_G d (0, 0) 151 0 [z_r p, z_i x0, z_i x1, z_x] [] w (fun r w' => z_G (d + 1) u 300 1131 ls (r.toList ++ st) w' Q)) := z_gcaV (d := d) (m := 300) (pc := 1128) (m' := 151) (k := 3) (nL := 4) (nx := 1131) (ci := 11) (p := p) (u := u) (ls := ls) (st := st) (w := w) (Q := Q) (vs := [z_r p, z_i x0, z_i x1]) ((zF300_17 1128 (by decide)).trans rfl) rfl rfl
set_option maxRecDepth 100000 in
theorem g300_1131 {d : Nat} {u : Nat × Nat} {ls st : List z_V} {w : z_W} {Q : z_P} {x : Int} : z_G d u 300 1131 ls (z_i x :: st) w Q ↔ z_G d u 300 1132 ls st w Q := z_gun ((zF300_17 1131 (by decide)).trans rfl)
set_option maxRecDepth 100000 in
theorem g300_1131r {d : Nat} {u : Nat × Nat} {ls st : List z_V} {w : z_W} {Q : z_P} {k : Nat} : z_G d u 300 1131 ls (z_r k :: st) w Q ↔ z_G d u 300 1132 ls st w Q := z_gun ((zF300_17 1131 (by decide)).trans rfl)
set_option maxRecDepth 100000 in
theorem g300_1132 {d : Nat} {u : Nat × Nat} {ls st : List z_V} {w : z_W} {Q : z_P} {o : Option Nat} {a0 a1 : z_V} : z_G d u 300 1132 (a0 :: a1 :: z_vr o :: ls) st w Q ↔ z_G d u 300 1133 (a0 :: a1 :: z_vr o :: ls) (z_vr o :: st) w Q := z_gun ((zF300_17 1132 (by decide)).trans rfl)
set_option maxRecDepth 100000 in
theorem g300_1132r {d : Nat} {u : Nat × Nat} {ls st : List z_V} {w : z_W} {Q : z_P} {k : Nat} {a0 a1 : z_V} : z_G d u 300 1132 (a0 :: a1 :: z_r k :: ls) st w Q ↔ z_G d u 300 1133 (a0 :: a1 :: z_r k :: ls) (z_r k :: st) w Q := z_gun ((zF300_17 1132 (by decide)).trans rfl)
set_option maxRecDepth 100000 in
theorem g300_1133 {d : Nat} {u : Nat × Nat} {ls st : List z_V} {w : z_W} {Q : z_P} {o : Option Nat} : z_G d u 300 1133 (z_vr o :: ls) st w Q ↔ z_G d u 300 1134 (z_vr o :: ls) (z_vr o :: st) w Q := z_gun ((zF300_17 1133 (by decide)).trans rfl)
set_option maxRecDepth 100000 in
theorem g300_1133r {d : Nat} {u : Nat × Nat} {ls st : List z_V} {w : z_W} {Q : z_P} {k : Nat} : z_G d u 300 1133 (z_r k :: ls) st w Q ↔ z_G d u 300 1134 (z_r k :: ls) (z_r k :: st) w Q := z_gun ((zF300_17 1133 (by decide)).trans rfl)
set_option maxRecDepth 100000 in
theorem g300_1134 {d : Nat} {u : Nat × Nat} {ls st : List z_V} {w : z_W} {Q : z_P} {z : Int} {a0 a1 a2 a3 : z_V} : z_G d u 300 1134 (a0 :: a1 :: a2 :: a3 :: z_i z :: ls) st w Q ↔ z_G d u 300 1136 (a0 :: a1 :: a2 :: a3 :: z_i z :: ls) (z_i z :: st) w Q := z_gun ((zF300_17 1134 (by decide)).trans rfl)
set_option maxRecDepth 100000 in
theorem g300_1136 {d : Nat} {u : Nat × Nat} {ls st : List z_V} {w : z_W} {Q : z_P} : z_G d u 300 1136 ls st w Q ↔ z_G d u 300 1137 ls (z_i (1) :: st) w Q := z_gun ((zF300_17 1136 (by decide)).trans rfl)
set_option maxRecDepth 100000 in
theorem g300_1137 {d : Nat} {u : Nat × Nat} {ls st : List z_V} {w : z_W} {Q : z_P} {x y : Int} : z_G d u 300 1137 ls (z_i y :: z_i x :: st) w Q ↔ z_G d u 300 1138 ls (z_i (z_add x y) :: st) w Q := z_gun ((zF300_17 1137 (by decide)).trans rfl)
set_option maxRecDepth 100000 in
theorem g300_1138 {d : Nat} {u : Nat × Nat} {ls st : List z_V} {w : z_W} {Q : z_P} {p : Nat} {i : Int} : z_G d u 300 1138 ls (z_i i :: z_r p :: st) w Q ↔ ((z_k w p = 100 ∨ z_k w p = 103) ∧ 0 ≤ i ∧ i < z_len w p ∧ (z_rg (z_I w p i) → z_G d u 300 1139 ls (z_i (z_I w p i) :: st) w Q)) := z_gun ((zF300_17 1138 (by decide)).trans rfl)
set_option maxRecDepth 100000 in
theorem g300_1139 {d : Nat} {u : Nat × Nat} {ls st : List z_V} {w : z_W} {Q : z_P} {o : Option Nat} : z_G d u 300 1139 (z_vr o :: ls) st w Q ↔ z_G d u 300 1140 (z_vr o :: ls) (z_vr o :: st) w Q := z_gun ((zF300_17 1139 (by decide)).trans rfl)
set_option maxRecDepth 100000 in
theorem g300_1139r {d : Nat} {u : Nat × Nat} {ls st : List z_V} {w : z_W} {Q : z_P} {k : Nat} : z_G d u 300 1139 (z_r k :: ls) st w Q ↔ z_G d u 300 1140 (z_r k :: ls) (z_r k :: st) w Q := z_gun ((zF300_17 1139 (by decide)).trans rfl)
set_option maxRecDepth 100000 in
theorem g300_1140 {d : Nat} {u : Nat × Nat} {ls st : List z_V} {w : z_W} {Q : z_P} {z : Int} {a0 a1 a2 a3 : z_V} : z_G d u 300 1140 (a0 :: a1 :: a2 :: a3 :: z_i z :: ls) st w Q ↔ z_G d u 300 1142 (a0 :: a1 :: a2 :: a3 :: z_i z :: ls) (z_i z :: st) w Q := z_gun ((zF300_17 1140 (by decide)).trans rfl)
set_option maxRecDepth 100000 in
theorem g300_1142 {d : Nat} {u : Nat × Nat} {ls st : List z_V} {w : z_W} {Q : z_P} : z_G d u 300 1142 ls st w Q ↔ z_G d u 300 1143 ls (z_i (2) :: st) w Q := z_gun ((zF300_17 1142 (by decide)).trans rfl)
set_option maxRecDepth 100000 in
theorem g300_1143 {d : Nat} {u : Nat × Nat} {ls st : List z_V} {w : z_W} {Q : z_P} {x y : Int} : z_G d u 300 1143 ls (z_i y :: z_i x :: st) w Q ↔ z_G d u 300 1144 ls (z_i (z_add x y) :: st) w Q := z_gun ((zF300_17 1143 (by decide)).trans rfl)
set_option maxRecDepth 100000 in
theorem g300_1144 {d : Nat} {u : Nat × Nat} {ls st : List z_V} {w : z_W} {Q : z_P} {p : Nat} {i : Int} : z_G d u 300 1144 ls (z_i i :: z_r p :: st) w Q ↔ ((z_k w p = 100 ∨ z_k w p = 103) ∧ 0 ≤ i ∧ i < z_len w p ∧ (z_rg (z_I w p i) → z_G d u 300 1145 ls (z_i (z_I w p i) :: st) w Q)) := z_gun ((zF300_17 1144 (by decide)).trans rfl)
set_option maxRecDepth 100000 in
theorem g300_1145 {d : Nat} {u : Nat × Nat} {ls st : List z_V} {w : z_W} {Q : z_P} {p : Nat} {x0 x1 : Int} : z_G (d + 1) u 300 1145 ls (z_i x1 :: z_i x0 :: z_r p :: st) w Q ↔ (z_k w p = 12 ∧ z_c8 st 8 = true ∧ z_G d (0, 0) 270 0 [z_r p, z_i x0, z_i x1] [] w (fun r w' => z_G (d + 1) u 300 1148 ls (r.toList ++ st) w' Q)) := z_gcaV (d := d) (m := 300) (pc := 1145) (m' := 270) (k := 3) (nL := 3) (nx := 1148) (ci := 12) (p := p) (u := u) (ls := ls) (st := st) (w := w) (Q := Q) (vs := [z_r p, z_i x0, z_i x1]) ((zF300_17 1145 (by decide)).trans rfl) rfl rfl
set_option maxRecDepth 100000 in
theorem g300_1148 {d : Nat} {u : Nat × Nat} {ls st : List z_V} {w : z_W} {Q : z_P} {x : Int} : z_G d u 300 1148 ls (z_i x :: st) w Q ↔ z_G d u 300 1149 ls st w Q := z_gun ((zF300_17 1148 (by decide)).trans rfl)
set_option maxRecDepth 100000 in
theorem g300_1148r {d : Nat} {u : Nat × Nat} {ls st : List z_V} {w : z_W} {Q : z_P} {k : Nat} : z_G d u 300 1148 ls (z_r k :: st) w Q ↔ z_G d u 300 1149 ls st w Q := z_gun ((zF300_17 1148 (by decide)).trans rfl)
set_option maxRecDepth 100000 in
theorem g300_1149 {d : Nat} {u : Nat × Nat} {ls st : List z_V} {w : z_W} {Q : z_P} : z_G d u 300 1149 ls st w Q ↔ z_G d u 300 1586 ls st w Q := z_gun ((zF300_17 1149 (by decide)).trans rfl)
set_option maxRecDepth 100000 in
theorem g300_1152 {d : Nat} {u : Nat × Nat} {ls st : List z_V} {w : z_W} {Q : z_P} {o : Option Nat} {a0 : z_V} : z_G d u 300 1152 (a0 :: z_vr o :: ls) st w Q ↔ z_G d u 300 1153 (a0 :: z_vr o :: ls) (z_vr o :: st) w Q := z_gun ((zF300_17 1152 (by decide)).trans rfl)
set_option maxRecDepth 100000 in
theorem g300_1152r {d : Nat} {u : Nat × Nat} {ls st : List z_V} {w : z_W} {Q : z_P} {k : Nat} {a0 : z_V} : z_G d u 300 1152 (a0 :: z_r k :: ls) st w Q ↔ z_G d u 300 1153 (a0 :: z_r k :: ls) (z_r k :: st) w Q := z_gun ((zF300_17 1152 (by decide)).trans rfl)
set_option maxRecDepth 100000 in
theorem g300_1153 {d : Nat} {u : Nat × Nat} {ls st : List z_V} {w : z_W} {Q : z_P} {o : Option Nat} : z_G d u 300 1153 (z_vr o :: ls) st w Q ↔ z_G d u 300 1154 (z_vr o :: ls) (z_vr o :: st) w Q := z_gun ((zF300_17 1153 (by decide)).trans rfl)
set_option maxRecDepth 100000 in
theorem g300_1153r {d : Nat} {u : Nat × Nat} {ls st : List z_V} {w : z_W} {Q : z_P} {k : Nat} : z_G d u 300 1153 (z_r k :: ls) st w Q ↔ z_G d u 300 1154 (z_r k :: ls) (z_r k :: st) w Q := z_gun ((zF300_17 1153 (by decide)).trans rfl)
set_option maxRecDepth 100000 in
theorem g300_1154 {d : Nat} {u : Nat × Nat} {ls st : List z_V} {w : z_W} {Q : z_P} {z : Int} {a0 a1 a2 a3 : z_V} : z_G d u 300 1154 (a0 :: a1 :: a2 :: a3 :: z_i z :: ls) st w Q ↔ z_G d u 300 1156 (a0 :: a1 :: a2 :: a3 :: z_i z :: ls) (z_i z :: st) w Q := z_gun ((zF300_17 1154 (by decide)).trans rfl)
set_option maxRecDepth 100000 in
theorem g300_1156 {d : Nat} {u : Nat × Nat} {ls st : List z_V} {w : z_W} {Q : z_P} : z_G d u 300 1156 ls st w Q ↔ z_G d u 300 1157 ls (z_i (1) :: st) w Q := z_gun ((zF300_17 1156 (by decide)).trans rfl)
set_option maxRecDepth 100000 in
theorem g300_1157 {d : Nat} {u : Nat × Nat} {ls st : List z_V} {w : z_W} {Q : z_P} {x y : Int} : z_G d u 300 1157 ls (z_i y :: z_i x :: st) w Q ↔ z_G d u 300 1158 ls (z_i (z_add x y) :: st) w Q := z_gun ((zF300_17 1157 (by decide)).trans rfl)
set_option maxRecDepth 100000 in
theorem g300_1158 {d : Nat} {u : Nat × Nat} {ls st : List z_V} {w : z_W} {Q : z_P} {p : Nat} {i : Int} : z_G d u 300 1158 ls (z_i i :: z_r p :: st) w Q ↔ ((z_k w p = 100 ∨ z_k w p = 103) ∧ 0 ≤ i ∧ i < z_len w p ∧ (z_rg (z_I w p i) → z_G d u 300 1159 ls (z_i (z_I w p i) :: st) w Q)) := z_gun ((zF300_18 1158 (by decide)).trans rfl)
set_option maxRecDepth 100000 in
theorem g300_1159 {d : Nat} {u : Nat × Nat} {ls st : List z_V} {w : z_W} {Q : z_P} {p : Nat} {x0 : Int} : z_G (d + 1) u 300 1159 ls (z_i x0 :: z_r p :: st) w Q ↔ (z_k w p = 11 ∧ z_c8 st 8 = true ∧ z_G d (0, 0) 152 0 [z_r p, z_i x0] [] w (fun r w' => z_G (d + 1) u 300 1162 ls (r.toList ++ st) w' Q)) := z_gcaV (d := d) (m := 300) (pc := 1159) (m' := 152) (k := 2) (nL := 2) (nx := 1162) (ci := 11) (p := p) (u := u) (ls := ls) (st := st) (w := w) (Q := Q) (vs := [z_r p, z_i x0]) ((zF300_18 1159 (by decide)).trans rfl) rfl rfl
set_option maxRecDepth 100000 in
theorem g300_1162 {d : Nat} {u : Nat × Nat} {ls st : List z_V} {w : z_W} {Q : z_P} {x : Int} : z_G d u 300 1162 ls (z_i x :: st) w Q ↔ z_G d u 300 1163 ls st w Q := z_gun ((zF300_18 1162 (by decide)).trans rfl)
set_option maxRecDepth 100000 in
theorem g300_1162r {d : Nat} {u : Nat × Nat} {ls st : List z_V} {w : z_W} {Q : z_P} {k : Nat} : z_G d u 300 1162 ls (z_r k :: st) w Q ↔ z_G d u 300 1163 ls st w Q := z_gun ((zF300_18 1162 (by decide)).trans rfl)
set_option maxRecDepth 100000 in
theorem g300_1163 {d : Nat} {u : Nat × Nat} {ls st : List z_V} {w : z_W} {Q : z_P} {o : Option Nat} {a0 a1 : z_V} : z_G d u 300 1163 (a0 :: a1 :: z_vr o :: ls) st w Q ↔ z_G d u 300 1164 (a0 :: a1 :: z_vr o :: ls) (z_vr o :: st) w Q := z_gun ((zF300_18 1163 (by decide)).trans rfl)
set_option maxRecDepth 100000 in
theorem g300_1163r {d : Nat} {u : Nat × Nat} {ls st : List z_V} {w : z_W} {Q : z_P} {k : Nat} {a0 a1 : z_V} : z_G d u 300 1163 (a0 :: a1 :: z_r k :: ls) st w Q ↔ z_G d u 300 1164 (a0 :: a1 :: z_r k :: ls) (z_r k :: st) w Q := z_gun ((zF300_18 1163 (by decide)).trans rfl)
set_option maxRecDepth 100000 in
theorem g300_1164 {d : Nat} {u : Nat × Nat} {ls st : List z_V} {w : z_W} {Q : z_P} {o : Option Nat} : z_G d u 300 1164 (z_vr o :: ls) st w Q ↔ z_G d u 300 1165 (z_vr o :: ls) (z_vr o :: st) w Q := z_gun ((zF300_18 1164 (by decide)).trans rfl)
set_option maxRecDepth 100000 in
theorem g300_1164r {d : Nat} {u : Nat × Nat} {ls st : List z_V} {w : z_W} {Q : z_P} {k : Nat} : z_G d u 300 1164 (z_r k :: ls) st w Q ↔ z_G d u 300 1165 (z_r k :: ls) (z_r k :: st) w Q := z_gun ((zF300_18 1164 (by decide)).trans rfl)
set_option maxRecDepth 100000 in
theorem g300_1165 {d : Nat} {u : Nat × Nat} {ls st : List z_V} {w : z_W} {Q : z_P} {z : Int} {a0 a1 a2 a3 : z_V} : z_G d u 300 1165 (a0 :: a1 :: a2 :: a3 :: z_i z :: ls) st w Q ↔ z_G d u 300 1167 (a0 :: a1 :: a2 :: a3 :: z_i z :: ls) (z_i z :: st) w Q := z_gun ((zF300_18 1165 (by decide)).trans rfl)
set_option maxRecDepth 100000 in
theorem g300_1167 {d : Nat} {u : Nat × Nat} {ls st : List z_V} {w : z_W} {Q : z_P} : z_G d u 300 1167 ls st w Q ↔ z_G d u 300 1168 ls (z_i (1) :: st) w Q := z_gun ((zF300_18 1167 (by decide)).trans rfl)
set_option maxRecDepth 100000 in
theorem g300_1168 {d : Nat} {u : Nat × Nat} {ls st : List z_V} {w : z_W} {Q : z_P} {x y : Int} : z_G d u 300 1168 ls (z_i y :: z_i x :: st) w Q ↔ z_G d u 300 1169 ls (z_i (z_add x y) :: st) w Q := z_gun ((zF300_18 1168 (by decide)).trans rfl)
set_option maxRecDepth 100000 in
theorem g300_1169 {d : Nat} {u : Nat × Nat} {ls st : List z_V} {w : z_W} {Q : z_P} {p : Nat} {i : Int} : z_G d u 300 1169 ls (z_i i :: z_r p :: st) w Q ↔ ((z_k w p = 100 ∨ z_k w p = 103) ∧ 0 ≤ i ∧ i < z_len w p ∧ (z_rg (z_I w p i) → z_G d u 300 1170 ls (z_i (z_I w p i) :: st) w Q)) := z_gun ((zF300_18 1169 (by decide)).trans rfl)
set_option maxRecDepth 100000 in
theorem g300_1170 {d : Nat} {u : Nat × Nat} {ls st : List z_V} {w : z_W} {Q : z_P} {p : Nat} {x0 : Int} : z_G (d + 1) u 300 1170 ls (z_i x0 :: z_r p :: st) w Q ↔ (z_k w p = 12 ∧ z_c8 st 8 = true ∧ z_G d (0, 0) 271 0 [z_r p, z_i x0, z_x, z_x, z_x] [] w (fun r w' => z_G (d + 1) u 300 1173 ls (r.toList ++ st) w' Q)) := z_gcaV (d := d) (m := 300) (pc := 1170) (m' := 271) (k := 2) (nL := 5) (nx := 1173) (ci := 12) (p := p) (u := u) (ls := ls) (st := st) (w := w) (Q := Q) (vs := [z_r p, z_i x0]) ((zF300_18 1170 (by decide)).trans rfl) rfl rfl
set_option maxRecDepth 100000 in
theorem g300_1173 {d : Nat} {u : Nat × Nat} {ls st : List z_V} {w : z_W} {Q : z_P} {x : Int} : z_G d u 300 1173 ls (z_i x :: st) w Q ↔ z_G d u 300 1174 ls st w Q := z_gun ((zF300_18 1173 (by decide)).trans rfl)
set_option maxRecDepth 100000 in
theorem g300_1173r {d : Nat} {u : Nat × Nat} {ls st : List z_V} {w : z_W} {Q : z_P} {k : Nat} : z_G d u 300 1173 ls (z_r k :: st) w Q ↔ z_G d u 300 1174 ls st w Q := z_gun ((zF300_18 1173 (by decide)).trans rfl)
set_option maxRecDepth 100000 in
theorem g300_1174 {d : Nat} {u : Nat × Nat} {ls st : List z_V} {w : z_W} {Q : z_P} : z_G d u 300 1174 ls st w Q ↔ z_G d u 300 1586 ls st w Q := z_gun ((zF300_18 1174 (by decide)).trans rfl)
set_option maxRecDepth 100000 in
theorem g300_1177 {d : Nat} {u : Nat × Nat} {ls st : List z_V} {w : z_W} {Q : z_P} {o : Option Nat} {a0 : z_V} : z_G d u 300 1177 (a0 :: z_vr o :: ls) st w Q ↔ z_G d u 300 1178 (a0 :: z_vr o :: ls) (z_vr o :: st) w Q := z_gun ((zF300_18 1177 (by decide)).trans rfl)
set_option maxRecDepth 100000 in
theorem g300_1177r {d : Nat} {u : Nat × Nat} {ls st : List z_V} {w : z_W} {Q : z_P} {k : Nat} {a0 : z_V} : z_G d u 300 1177 (a0 :: z_r k :: ls) st w Q ↔ z_G d u 300 1178 (a0 :: z_r k :: ls) (z_r k :: st) w Q := z_gun ((zF300_18 1177 (by decide)).trans rfl)
set_option maxRecDepth 100000 in
theorem g300_1178 {d : Nat} {u : Nat × Nat} {ls st : List z_V} {w : z_W} {Q : z_P} {o : Option Nat} : z_G d u 300 1178 (z_vr o :: ls) st w Q ↔ z_G d u 300 1179 (z_vr o :: ls) (z_vr o :: st) w Q := z_gun ((zF300_18 1178 (by decide)).trans rfl)
set_option maxRecDepth 100000 in
theorem g300_1178r {d : Nat} {u : Nat × Nat} {ls st : List z_V} {w : z_W} {Q : z_P} {k : Nat} : z_G d u 300 1178 (z_r k :: ls) st w Q ↔ z_G d u 300 1179 (z_r k :: ls) (z_r k :: st) w Q := z_gun ((zF300_18 1178 (by decide)).trans rfl)
set_option maxRecDepth 100000 in
theorem g300_1179 {d : Nat} {u : Nat × Nat} {ls st : List z_V} {w : z_W} {Q : z_P} {z : Int} {a0 a1 a2 a3 : z_V} : z_G d u 300 1179 (a0 :: a1 :: a2 :: a3 :: z_i z :: ls) st w Q ↔ z_G d u 300 1181 (a0 :: a1 :: a2 :: a3 :: z_i z :: ls) (z_i z :: st) w Q := z_gun ((zF300_18 1179 (by decide)).trans rfl)
set_option maxRecDepth 100000 in
theorem g300_1181 {d : Nat} {u : Nat × Nat} {ls st : List z_V} {w : z_W} {Q : z_P} : z_G d u 300 1181 ls st w Q ↔ z_G d u 300 1182 ls (z_i (1) :: st) w Q := z_gun ((zF300_18 1181 (by decide)).trans rfl)
set_option maxRecDepth 100000 in
theorem g300_1182 {d : Nat} {u : Nat × Nat} {ls st : List z_V} {w : z_W} {Q : z_P} {x y : Int} : z_G d u 300 1182 ls (z_i y :: z_i x :: st) w Q ↔ z_G d u 300 1183 ls (z_i (z_add x y) :: st) w Q := z_gun ((zF300_18 1182 (by decide)).trans rfl)
set_option maxRecDepth 100000 in
theorem g300_1183 {d : Nat} {u : Nat × Nat} {ls st : List z_V} {w : z_W} {Q : z_P} {p : Nat} {i : Int} : z_G d u 300 1183 ls (z_i i :: z_r p :: st) w Q ↔ ((z_k w p = 100 ∨ z_k w p = 103) ∧ 0 ≤ i ∧ i < z_len w p ∧ (z_rg (z_I w p i) → z_G d u 300 1184 ls (z_i (z_I w p i) :: st) w Q)) := z_gun ((zF300_18 1183 (by decide)).trans rfl)
set_option maxRecDepth 100000 in
theorem g300_1184 {d : Nat} {u : Nat × Nat} {ls st : List z_V} {w : z_W} {Q : z_P} {o : Option Nat} : z_G d u 300 1184 (z_vr o :: ls) st w Q ↔ z_G d u 300 1185 (z_vr o :: ls) (z_vr o :: st) w Q := z_gun ((zF300_18 1184 (by decide)).trans rfl)
set_option maxRecDepth 100000 in
theorem g300_1184r {d : Nat} {u : Nat × Nat} {ls st : List z_V} {w : z_W} {Q : z_P} {k : Nat} : z_G d u 300 1184 (z_r k :: ls) st w Q ↔ z_G d u 300 1185 (z_r k :: ls) (z_r k :: st) w Q := z_gun ((zF300_18 1184 (by decide)).trans rfl)
set_option maxRecDepth 100000 in
theorem g300_1185 {d : Nat} {u : Nat × Nat} {ls st : List z_V} {w : z_W} {Q : z_P} {z : Int} {a0 a1 a2 a3 : z_V} : z_G d u 300 1185 (a0 :: a1 :: a2 :: a3 :: z_i z :: ls) st w Q ↔ z_G d u 300 1187 (a0 :: a1 :: a2 :: a3 :: z_i z :: ls) (z_i z :: st) w Q := z_gun ((zF300_18 1185 (by decide)).trans rfl)
set_option maxRecDepth 100000 in
theorem g300_1187 {d : Nat} {u : Nat × Nat} {ls st : List z_V} {w : z_W} {Q : z_P} : z_G d u 300 1187 ls st w Q ↔ z_G d u 300 1188 ls (z_i (2) :: st) w Q := z_gun ((zF300_18 1187 (by decide)).trans rfl)
set_option maxRecDepth 100000 in
theorem g300_1188 {d : Nat} {u : Nat × Nat} {ls st : List z_V} {w : z_W} {Q : z_P} {x y : Int} : z_G d u 300 1188 ls (z_i y :: z_i x :: st) w Q ↔ z_G d u 300 1189 ls (z_i (z_add x y) :: st) w Q := z_gun ((zF300_18 1188 (by decide)).trans rfl)
set_option maxRecDepth 100000 in
theorem g300_1189 {d : Nat} {u : Nat × Nat} {ls st : List z_V} {w : z_W} {Q : z_P} {p : Nat} {i : Int} : z_G d u 300 1189 ls (z_i i :: z_r p :: st) w Q ↔ ((z_k w p = 100 ∨ z_k w p = 103) ∧ 0 ≤ i ∧ i < z_len w p ∧ (z_rg (z_I w p i) → z_G d u 300 1190 ls (z_i (z_I w p i) :: st) w Q)) := z_gun ((zF300_18 1189 (by decide)).trans rfl)
set_option maxRecDepth 100000 in
theorem g300_1190 {d : Nat} {u : Nat × Nat} {ls st : List z_V} {w : z_W} {Q : z_P} {o : Option Nat} : z_G d u 300 1190 (z_vr o :: ls) st w Q ↔ z_G d u 300 1191 (z_vr o :: ls) (z_vr o :: st) w Q := z_gun ((zF300_18 1190 (by decide)).trans rfl)
set_option maxRecDepth 100000 in
theorem g300_1190r {d : Nat} {u : Nat × Nat} {ls st : List z_V} {w : z_W} {Q : z_P} {k : Nat} : z_G d u 300 1190 (z_r k :: ls) st w Q ↔ z_G d u 300 1191 (z_r k :: ls) (z_r k :: st) w Q := z_gun ((zF300_18 1190 (by decide)).trans rfl)
set_option maxRecDepth 100000 in
theorem g300_1191 {d : Nat} {u : Nat × Nat} {ls st : List z_V} {w : z_W} {Q : z_P} {z : Int} {a0 a1 a2 a3 : z_V} : z_G d u 300 1191 (a0 :: a1 :: a2 :: a3 :: z_i z :: ls) st w Q ↔ z_G d u 300 1193 (a0 :: a1 :: a2 :: a3 :: z_i z :: ls) (z_i z :: st) w Q := z_gun ((zF300_18 1191 (by decide)).trans rfl)
set_option maxRecDepth 100000 in
theorem g300_1193 {d : Nat} {u : Nat × Nat} {ls st : List z_V} {w : z_W} {Q : z_P} : z_G d u 300 1193 ls st w Q ↔ z_G d u 300 1194 ls (z_i (3) :: st) w Q := z_gun ((zF300_18 1193 (by decide)).trans rfl)
set_option maxRecDepth 100000 in
theorem g300_1194 {d : Nat} {u : Nat × Nat} {ls st : List z_V} {w : z_W} {Q : z_P} {x y : Int} : z_G d u 300 1194 ls (z_i y :: z_i x :: st) w Q ↔ z_G d u 300 1195 ls (z_i (z_add x y) :: st) w Q := z_gun ((zF300_18 1194 (by decide)).trans rfl)
set_option maxRecDepth 100000 in
theorem g300_1195 {d : Nat} {u : Nat × Nat} {ls st : List z_V} {w : z_W} {Q : z_P} {p : Nat} {i : Int} : z_G d u 300 1195 ls (z_i i :: z_r p :: st) w Q ↔ ((z_k w p = 100 ∨ z_k w p = 103) ∧ 0 ≤ i ∧ i < z_len w p ∧ (z_rg (z_I w p i) → z_G d u 300 1196 ls (z_i (z_I w p i) :: st) w Q)) := z_gun ((zF300_18 1195 (by decide)).trans rfl)
set_option maxRecDepth 100000 in
theorem g300_1196 {d : Nat} {u : Nat × Nat} {ls st : List z_V} {w : z_W} {Q : z_P} {o : Option Nat} : z_G d u 300 1196 (z_vr o :: ls) st w Q ↔ z_G d u 300 1197 (z_vr o :: ls) (z_vr o :: st) w Q := z_gun ((zF300_18 1196 (by decide)).trans rfl)
set_option maxRecDepth 100000 in
theorem g300_1196r {d : Nat} {u : Nat × Nat} {ls st : List z_V} {w : z_W} {Q : z_P} {k : Nat} : z_G d u 300 1196 (z_r k :: ls) st w Q ↔ z_G d u 300 1197 (z_r k :: ls) (z_r k :: st) w Q := z_gun ((zF300_18 1196 (by decide)).trans rfl)
set_option maxRecDepth 100000 in
theorem g300_1197 {d : Nat} {u : Nat × Nat} {ls st : List z_V} {w : z_W} {Q : z_P} {z : Int} {a0 a1 a2 a3 : z_V} : z_G d u 300 1197 (a0 :: a1 :: a2 :: a3 :: z_i z :: ls) st w Q ↔ z_G d u 300 1199 (a0 :: a1 :: a2 :: a3 :: z_i z :: ls) (z_i z :: st) w Q := z_gun ((zF300_18 1197 (by decide)).trans rfl)
set_option maxRecDepth 100000 in
theorem g300_1199 {d : Nat} {u : Nat × Nat} {ls st : List z_V} {w : z_W} {Q : z_P} : z_G d u 300 1199 ls st w Q ↔ z_G d u 300 1200 ls (z_i (4) :: st) w Q := z_gun ((zF300_18 1199 (by decide)).trans rfl)
set_option maxRecDepth 100000 in
theorem g300_1200 {d : Nat} {u : Nat × Nat} {ls st : List z_V} {w : z_W} {Q : z_P} {x y : Int} : z_G d u 300 1200 ls (z_i y :: z_i x :: st) w Q ↔ z_G d u 300 1201 ls (z_i (z_add x y) :: st) w Q := z_gun ((zF300_18 1200 (by decide)).trans rfl)
set_option maxRecDepth 100000 in
theorem g300_1201 {d : Nat} {u : Nat × Nat} {ls st : List z_V} {w : z_W} {Q : z_P} {p : Nat} {i : Int} : z_G d u 300 1201 ls (z_i i :: z_r p :: st) w Q ↔ ((z_k w p = 100 ∨ z_k w p = 103) ∧ 0 ≤ i ∧ i < z_len w p ∧ (z_rg (z_I w p i) → z_G d u 300 1202 ls (z_i (z_I w p i) :: st) w Q)) := z_gun ((zF300_18 1201 (by decide)).trans rfl)
set_option maxRecDepth 100000 in
theorem g300_1202 {d : Nat} {u : Nat × Nat} {ls st : List z_V} {w : z_W} {Q : z_P} {o : Option Nat} : z_G d u 300 1202 (z_vr o :: ls) st w Q ↔ z_G d u 300 1203 (z_vr o :: ls) (z_vr o :: st) w Q := z_gun ((zF300_18 1202 (by decide)).trans rfl)
set_option maxRecDepth 100000 in
theorem g300_1202r {d : Nat} {u : Nat × Nat} {ls st : List z_V} {w : z_W} {Q : z_P} {k : Nat} : z_G d u 300 1202 (z_r k :: ls) st w Q ↔ z_G d u 300 1203 (z_r k :: ls) (z_r k :: st) w Q := z_gun ((zF300_18 1202 (by decide)).trans rfl)
set_option maxRecDepth 100000 in
theorem g300_1203 {d : Nat} {u : Nat × Nat} {ls st : List z_V} {w : z_W} {Q : z_P} {z : Int} {a0 a1 a2 a3 : z_V} : z_G d u 300 1203 (a0 :: a1 :: a2 :: a3 :: z_i z :: ls) st w Q ↔ z_G d u 300 1205 (a0 :: a1 :: a2 :: a3 :: z_i z :: ls) (z_i z :: st) w Q := z_gun ((zF300_18 1203 (by decide)).trans rfl)
set_option maxRecDepth 100000 in
theorem g300_1205 {d : Nat} {u : Nat × Nat} {ls st : List z_V} {w : z_W} {Q : z_P} : z_G d u 300 1205 ls st w Q ↔ z_G d u 300 1206 ls (z_i (5) :: st) w Q := z_gun ((zF300_18 1205 (by decide)).trans rfl)
set_option maxRecDepth 100000 in
theorem g300_1206 {d : Nat} {u : Nat × Nat} {ls st : List z_V} {w : z_W} {Q : z_P} {x y : Int} : z_G d u 300 1206 ls (z_i y :: z_i x :: st) w Q ↔ z_G d u 300 1207 ls (z_i (z_add x y) :: st) w Q := z_gun ((zF300_18 1206 (by decide)).trans rfl)
set_option maxRecDepth 100000 in
theorem g300_1207 {d : Nat} {u : Nat × Nat} {ls st : List z_V} {w : z_W} {Q : z_P} {p : Nat} {i : Int} : z_G d u 300 1207 ls (z_i i :: z_r p :: st) w Q ↔ ((z_k w p = 100 ∨ z_k w p = 103) ∧ 0 ≤ i ∧ i < z_len w p ∧ (z_rg (z_I w p i) → z_G d u 300 1208 ls (z_i (z_I w p i) :: st) w Q)) := z_gun ((zF300_18 1207 (by decide)).trans rfl)
set_option maxRecDepth 100000 in
theorem g300_1208 {d : Nat} {u : Nat × Nat} {ls st : List z_V} {w : z_W} {Q : z_P} {o : Option Nat} : z_G d u 300 1208 (z_vr o :: ls) st w Q ↔ z_G d u 300 1209 (z_vr o :: ls) (z_vr o :: st) w Q := z_gun ((zF300_18 1208 (by decide)).trans rfl)
set_option maxRecDepth 100000 in
theorem g300_1208r {d : Nat} {u : Nat × Nat} {ls st : List z_V} {w : z_W} {Q : z_P} {k : Nat} : z_G d u 300 1208 (z_r k :: ls) st w Q ↔ z_G d u 300 1209 (z_r k :: ls) (z_r k :: st) w Q := z_gun ((zF300_18 1208 (by decide)).trans rfl)
set_option maxRecDepth 100000 in
theorem g300_1209 {d : Nat} {u : Nat × Nat} {ls st : List z_V} {w : z_W} {Q : z_P} {z : Int} {a0 a1 a2 a3 : z_V} : z_G d u 300 1209 (a0 :: a1 :: a2 :: a3 :: z_i z :: ls) st w Q ↔ z_G d u 300 1211 (a0 :: a1 :: a2 :: a3 :: z_i z :: ls) (z_i z :: st) w Q := z_gun ((zF300_18 1209 (by decide)).trans rfl)
set_option maxRecDepth 100000 in
theorem g300_1211 {d : Nat} {u : Nat × Nat} {ls st : List z_V} {w : z_W} {Q : z_P} : z_G d u 300 1211 ls st w Q ↔ z_G d u 300 1213 ls (z_i (6) :: st) w Q := z_gun ((zF300_19 1211 (by decide)).trans rfl)
set_option maxRecDepth 100000 in
theorem g300_1213 {d : Nat} {u : Nat × Nat} {ls st : List z_V} {w : z_W} {Q : z_P} {x y : Int} : z_G d u 300 1213 ls (z_i y :: z_i x :: st) w Q ↔ z_G d u 300 1214 ls (z_i (z_add x y) :: st) w Q := z_gun ((zF300_19 1213 (by decide)).trans rfl)
set_option maxRecDepth 100000 in
theorem g300_1214 {d : Nat} {u : Nat × Nat} {ls st : List z_V} {w : z_W} {Q : z_P} {p : Nat} {i : Int} : z_G d u 300 1214 ls (z_i i :: z_r p :: st) w Q ↔ ((z_k w p = 100 ∨ z_k w p = 103) ∧ 0 ≤ i ∧ i < z_len w p ∧ (z_rg (z_I w p i) → z_G d u 300 1215 ls (z_i (z_I w p i) :: st) w Q)) := z_gun ((zF300_19 1214 (by decide)).trans rfl)
set_option maxRecDepth 100000 in
theorem g300_1215 {d : Nat} {u : Nat × Nat} {ls st : List z_V} {w : z_W} {Q : z_P} {p : Nat} {x0 x1 x2 x3 x4 x5 : Int} : z_G (d + 1) u 300 1215 ls (z_i x5 :: z_i x4 :: z_i x3 :: z_i x2 :: z_i x1 :: z_i x0 :: z_r p :: st) w Q ↔ (z_k w p = 11 ∧ z_c8 st 8 = true ∧ z_G d (0, 0) 153 0 [z_r p, z_i x0, z_i x1, z_i x2, z_i x3, z_i x4, z_i x5] [] w (fun r w' => z_G (d + 1) u 300 1218 ls (r.toList ++ st) w' Q)) := z_gcaV (d := d) (m := 300) (pc := 1215) (m' := 153) (k := 7) (nL := 7) (nx := 1218) (ci := 11) (p := p) (u := u) (ls := ls) (st := st) (w := w) (Q := Q) (vs := [z_r p, z_i x0, z_i x1, z_i x2, z_i x3, z_i x4, z_i x5]) ((zF300_19 1215 (by decide)).trans rfl) rfl rfl
set_option maxRecDepth 100000 in
theorem g300_1218 {d : Nat} {u : Nat × Nat} {ls st : List z_V} {w : z_W} {Q : z_P} {x : Int} : z_G d u 300 1218 ls (z_i x :: st) w Q ↔ z_G d u 300 1219 ls st w Q := z_gun ((zF300_19 1218 (by decide)).trans rfl)
set_option maxRecDepth 100000 in
theorem g300_1218r {d : Nat} {u : Nat × Nat} {ls st : List z_V} {w : z_W} {Q : z_P} {k : Nat} : z_G d u 300 1218 ls (z_r k :: st) w Q ↔ z_G d u 300 1219 ls st w Q := z_gun ((zF300_19 1218 (by decide)).trans rfl)
set_option maxRecDepth 100000 in
theorem g300_1219 {d : Nat} {u : Nat × Nat} {ls st : List z_V} {w : z_W} {Q : z_P} {o : Option Nat} {a0 a1 : z_V} : z_G d u 300 1219 (a0 :: a1 :: z_vr o :: ls) st w Q ↔ z_G d u 300 1220 (a0 :: a1 :: z_vr o :: ls) (z_vr o :: st) w Q := z_gun ((zF300_19 1219 (by decide)).trans rfl)
set_option maxRecDepth 100000 in
theorem g300_1219r {d : Nat} {u : Nat × Nat} {ls st : List z_V} {w : z_W} {Q : z_P} {k : Nat} {a0 a1 : z_V} : z_G d u 300 1219 (a0 :: a1 :: z_r k :: ls) st w Q ↔ z_G d u 300 1220 (a0 :: a1 :: z_r k :: ls) (z_r k :: st) w Q := z_gun ((zF300_19 1219 (by decide)).trans rfl)
set_option maxRecDepth 100000 in
theorem g300_1220 {d : Nat} {u : Nat × Nat} {ls st : List z_V} {w : z_W} {Q : z_P} {o : Option Nat} : z_G d u 300 1220 (z_vr o :: ls) st w Q ↔ z_G d u 300 1221 (z_vr o :: ls) (z_vr o :: st) w Q := z_gun ((zF300_19 1220 (by decide)).trans rfl)
set_option maxRecDepth 100000 in
theorem g300_1220r {d : Nat} {u : Nat × Nat} {ls st : List z_V} {w : z_W} {Q : z_P} {k : Nat} : z_G d u 300 1220 (z_r k :: ls) st w Q ↔ z_G d u 300 1221 (z_r k :: ls) (z_r k :: st) w Q := z_gun ((zF300_19 1220 (by decide)).trans rfl)
set_option maxRecDepth 100000 in
theorem g300_1221 {d : Nat} {u : Nat × Nat} {ls st : List z_V} {w : z_W} {Q : z_P} {z : Int} {a0 a1 a2 a3 : z_V} : z_G d u 300 1221 (a0 :: a1 :: a2 :: a3 :: z_i z :: ls) st w Q ↔ z_G d u 300 1223 (a0 :: a1 :: a2 :: a3 :: z_i z :: ls) (z_i z :: st) w Q := z_gun ((zF300_19 1221 (by decide)).trans rfl)
set_option maxRecDepth 100000 in
theorem g300_1223 {d : Nat} {u : Nat × Nat} {ls st : List z_V} {w : z_W} {Q : z_P} : z_G d u 300 1223 ls st w Q ↔ z_G d u 300 1224 ls (z_i (1) :: st) w Q := z_gun ((zF300_19 1223 (by decide)).trans rfl)
set_option maxRecDepth 100000 in
theorem g300_1224 {d : Nat} {u : Nat × Nat} {ls st : List z_V} {w : z_W} {Q : z_P} {x y : Int} : z_G d u 300 1224 ls (z_i y :: z_i x :: st) w Q ↔ z_G d u 300 1225 ls (z_i (z_add x y) :: st) w Q := z_gun ((zF300_19 1224 (by decide)).trans rfl)
set_option maxRecDepth 100000 in
theorem g300_1225 {d : Nat} {u : Nat × Nat} {ls st : List z_V} {w : z_W} {Q : z_P} {p : Nat} {i : Int} : z_G d u 300 1225 ls (z_i i :: z_r p :: st) w Q ↔ ((z_k w p = 100 ∨ z_k w p = 103) ∧ 0 ≤ i ∧ i < z_len w p ∧ (z_rg (z_I w p i) → z_G d u 300 1226 ls (z_i (z_I w p i) :: st) w Q)) := z_gun ((zF300_19 1225 (by decide)).trans rfl)
set_option maxRecDepth 100000 in
theorem g300_1226 {d : Nat} {u : Nat × Nat} {ls st : List z_V} {w : z_W} {Q : z_P} {o : Option Nat} : z_G d u 300 1226 (z_vr o :: ls) st w Q ↔ z_G d u 300 1227 (z_vr o :: ls) (z_vr o :: st) w Q := z_gun ((zF300_19 1226 (by decide)).trans rfl)
set_option maxRecDepth 100000 in
theorem g300_1226r {d : Nat} {u : Nat × Nat} {ls st : List z_V} {w : z_W} {Q : z_P} {k : Nat} : z_G d u 300 1226 (z_r k :: ls) st w Q ↔ z_G d u 300 1227 (z_r k :: ls) (z_r k :: st) w Q := z_gun ((zF300_19 1226 (by decide)).trans rfl)
set_option maxRecDepth 100000 in
theorem g300_1227 {d : Nat} {u : Nat × Nat} {ls st : List z_V} {w : z_W} {Q : z_P} {z : Int} {a0 a1 a2 a3 : z_V} : z_G d u 300 1227 (a0 :: a1 :: a2 :: a3 :: z_i z :: ls) st w Q ↔ z_G d u 300 1229 (a0 :: a1 :: a2 :: a3 :: z_i z :: ls) (z_i z :: st) w Q := z_gun ((zF300_19 1227 (by decide)).trans rfl)
set_option maxRecDepth 100000 in
theorem g300_1229 {d : Nat} {u : Nat × Nat} {ls st : List z_V} {w : z_W} {Q : z_P} : z_G d u 300 1229 ls st w Q ↔ z_G d u 300 1230 ls (z_i (2) :: st) w Q := z_gun ((zF300_19 1229 (by decide)).trans rfl)
set_option maxRecDepth 100000 in
theorem g300_1230 {d : Nat} {u : Nat × Nat} {ls st : List z_V} {w : z_W} {Q : z_P} {x y : Int} : z_G d u 300 1230 ls (z_i y :: z_i x :: st) w Q ↔ z_G d u 300 1231 ls (z_i (z_add x y) :: st) w Q := z_gun ((zF300_19 1230 (by decide)).trans rfl)
set_option maxRecDepth 100000 in
theorem g300_1231 {d : Nat} {u : Nat × Nat} {ls st : List z_V} {w : z_W} {Q : z_P} {p : Nat} {i : Int} : z_G d u 300 1231 ls (z_i i :: z_r p :: st) w Q ↔ ((z_k w p = 100 ∨ z_k w p = 103) ∧ 0 ≤ i ∧ i < z_len w p ∧ (z_rg (z_I w p i) → z_G d u 300 1232 ls (z_i (z_I w p i) :: st) w Q)) := z_gun ((zF300_19 1231 (by decide)).trans rfl)
set_option maxRecDepth 100000 in
theorem g300_1232 {d : Nat} {u : Nat × Nat} {ls st : List z_V} {w : z_W} {Q : z_P} {o : Option Nat} : z_G d u 300 1232 (z_vr o :: ls) st w Q ↔ z_G d u 300 1233 (z_vr o :: ls) (z_vr o :: st) w Q := z_gun ((zF300_19 1232 (by decide)).trans rfl)
set_option maxRecDepth 100000 in
theorem g300_1232r {d : Nat} {u : Nat × Nat} {ls st : List z_V} {w : z_W} {Q : z_P} {k : Nat} : z_G d u 300 1232 (z_r k :: ls) st w Q ↔ z_G d u 300 1233 (z_r k :: ls) (z_r k :: st) w Q := z_gun ((zF300_19 1232 (by decide)).trans rfl)
set_option maxRecDepth 100000 in
theorem g300_1233 {d : Nat} {u : Nat × Nat} {ls st : List z_V} {w : z_W} {Q : z_P} {z : Int} {a0 a1 a2 a3 : z_V} : z_G d u 300 1233 (a0 :: a1 :: a2 :: a3 :: z_i z :: ls) st w Q ↔ z_G d u 300 1235 (a0 :: a1 :: a2 :: a3 :: z_i z :: ls) (z_i z :: st) w Q := z_gun ((zF300_19 1233 (by decide)).trans rfl)
set_option maxRecDepth 100000 in
theorem g300_1235 {d : Nat} {u : Nat × Nat} {ls st : List z_V} {w : z_W} {Q : z_P} : z_G d u 300 1235 ls st w Q ↔ z_G d u 300 1236 ls (z_i (3) :: st) w Q := z_gun ((zF300_19 1235 (by decide)).trans rfl)
set_option maxRecDepth 100000 in
theorem g300_1236 {d : Nat} {u : Nat × Nat} {ls st : List z_V} {w : z_W} {Q : z_P} {x y : Int} : z_G d u 300 1236 ls (z_i y :: z_i x :: st) w Q ↔ z_G d u 300 1237 ls (z_i (z_add x y) :: st) w Q := z_gun ((zF300_19 1236 (by decide)).trans rfl)
set_option maxRecDepth 100000 in
theorem g300_1237 {d : Nat} {u : Nat × Nat} {ls st : List z_V} {w : z_W} {Q : z_P} {p : Nat} {i : Int} : z_G d u 300 1237 ls (z_i i :: z_r p :: st) w Q ↔ ((z_k w p = 100 ∨ z_k w p = 103) ∧ 0 ≤ i ∧ i < z_len w p ∧ (z_rg (z_I w p i) → z_G d u 300 1238 ls (z_i (z_I w p i) :: st) w Q)) := z_gun ((zF300_19 1237 (by decide)).trans rfl)
set_option maxRecDepth 100000 in
theorem g300_1238 {d : Nat} {u : Nat × Nat} {ls st : List z_V} {w : z_W} {Q : z_P} {o : Option Nat} : z_G d u 300 1238 (z_vr o :: ls) st w Q ↔ z_G d u 300 1239 (z_vr o :: ls) (z_vr o :: st) w Q := z_gun ((zF300_19 1238 (by decide)).trans rfl)
set_option maxRecDepth 100000 in
theorem g300_1238r {d : Nat} {u : Nat × Nat} {ls st : List z_V} {w : z_W} {Q : z_P} {k : Nat} : z_G d u 300 1238 (z_r k :: ls) st w Q ↔ z_G d u 300 1239 (z_r k :: ls) (z_r k :: st) w Q := z_gun ((zF300_19 1238 (by decide)).trans rfl)
set_option maxRecDepth 100000 in
theorem g300_1239 {d : Nat} {u : Nat × Nat} {ls st : List z_V} {w : z_W} {Q : z_P} {z : Int} {a0 a1 a2 a3 : z_V} : z_G d u 300 1239 (a0 :: a1 :: a2 :: a3 :: z_i z :: ls) st w Q ↔ z_G d u 300 1241 (a0 :: a1 :: a2 :: a3 :: z_i z :: ls) (z_i z :: st) w Q := z_gun ((zF300_19 1239 (by decide)).trans rfl)
set_option maxRecDepth 100000 in
theorem g300_1241 {d : Nat} {u : Nat × Nat} {ls st : List z_V} {w : z_W} {Q : z_P} : z_G d u 300 1241 ls st w Q ↔ z_G d u 300 1242 ls (z_i (4) :: st) w Q := z_gun ((zF300_19 1241 (by decide)).trans rfl)
set_option maxRecDepth 100000 in
theorem g300_1242 {d : Nat} {u : Nat × Nat} {ls st : List z_V} {w : z_W} {Q : z_P} {x y : Int} : z_G d u 300 1242 ls (z_i y :: z_i x :: st) w Q ↔ z_G d u 300 1243 ls (z_i (z_add x y) :: st) w Q := z_gun ((zF300_19 1242 (by decide)).trans rfl)
set_option maxRecDepth 100000 in
theorem g300_1243 {d : Nat} {u : Nat × Nat} {ls st : List z_V} {w : z_W} {Q : z_P} {p : Nat} {i : Int} : z_G d u 300 1243 ls (z_i i :: z_r p :: st) w Q ↔ ((z_k w p = 100 ∨ z_k w p = 103) ∧ 0 ≤ i ∧ i < z_len w p ∧ (z_rg (z_I w p i) → z_G d u 300 1244 ls (z_i (z_I w p i) :: st) w Q)) := z_gun ((zF300_19 1243 (by decide)).trans rfl)
set_option maxRecDepth 100000 in
theorem g300_1244 {d : Nat} {u : Nat × Nat} {ls st : List z_V} {w : z_W} {Q : z_P} {o : Option Nat} : z_G d u 300 1244 (z_vr o :: ls) st w Q ↔ z_G d u 300 1245 (z_vr o :: ls) (z_vr o :: st) w Q := z_gun ((zF300_19 1244 (by decide)).trans rfl)
set_option maxRecDepth 100000 in
theorem g300_1244r {d : Nat} {u : Nat × Nat} {ls st : List z_V} {w : z_W} {Q : z_P} {k : Nat} : z_G d u 300 1244 (z_r k :: ls) st w Q ↔ z_G d u 300 1245 (z_r k :: ls) (z_r k :: st) w Q := z_gun ((zF300_19 1244 (by decide)).trans rfl)
set_option maxRecDepth 100000 in
theorem g300_1245 {d : Nat} {u : Nat × Nat} {ls st : List z_V} {w : z_W} {Q : z_P} {z : Int} {a0 a1 a2 a3 : z_V} : z_G d u 300 1245 (a0 :: a1 :: a2 :: a3 :: z_i z :: ls) st w Q ↔ z_G d u 300 1247 (a0 :: a1 :: a2 :: a3 :: z_i z :: ls) (z_i z :: st) w Q := z_gun ((zF300_19 1245 (by decide)).trans rfl)
set_option maxRecDepth 100000 in
theorem g300_1247 {d : Nat} {u : Nat × Nat} {ls st : List z_V} {w : z_W} {Q : z_P} : z_G d u 300 1247 ls st w Q ↔ z_G d u 300 1248 ls (z_i (5) :: st) w Q := z_gun ((zF300_19 1247 (by decide)).trans rfl)
set_option maxRecDepth 100000 in
theorem g300_1248 {d : Nat} {u : Nat × Nat} {ls st : List z_V} {w : z_W} {Q : z_P} {x y : Int} : z_G d u 300 1248 ls (z_i y :: z_i x :: st) w Q ↔ z_G d u 300 1249 ls (z_i (z_add x y) :: st) w Q := z_gun ((zF300_19 1248 (by decide)).trans rfl)
set_option maxRecDepth 100000 in
theorem g300_1249 {d : Nat} {u : Nat × Nat} {ls st : List z_V} {w : z_W} {Q : z_P} {p : Nat} {i : Int} : z_G d u 300 1249 ls (z_i i :: z_r p :: st) w Q ↔ ((z_k w p = 100 ∨ z_k w p = 103) ∧ 0 ≤ i ∧ i < z_len w p ∧ (z_rg (z_I w p i) → z_G d u 300 1250 ls (z_i (z_I w p i) :: st) w Q)) := z_gun ((zF300_19 1249 (by decide)).trans rfl)
set_option maxRecDepth 100000 in
theorem g300_1250 {d : Nat} {u : Nat × Nat} {ls st : List z_V} {w : z_W} {Q : z_P} {o : Option Nat} : z_G d u 300 1250 (z_vr o :: ls) st w Q ↔ z_G d u 300 1251 (z_vr o :: ls) (z_vr o :: st) w Q := z_gun ((zF300_19 1250 (by decide)).trans rfl)
set_option maxRecDepth 100000 in
theorem g300_1250r {d : Nat} {u : Nat × Nat} {ls st : List z_V} {w : z_W} {Q : z_P} {k : Nat} : z_G d u 300 1250 (z_r k :: ls) st w Q ↔ z_G d u 300 1251 (z_r k :: ls) (z_r k :: st) w Q := z_gun ((zF300_19 1250 (by decide)).trans rfl)
set_option maxRecDepth 100000 in
theorem g300_1251 {d : Nat} {u : Nat × Nat} {ls st : List z_V} {w : z_W} {Q : z_P} {z : Int} {a0 a1 a2 a3 : z_V} : z_G d u 300 1251 (a0 :: a1 :: a2 :: a3 :: z_i z :: ls) st w Q ↔ z_G d u 300 1253 (a0 :: a1 :: a2 :: a3 :: z_i z :: ls) (z_i z :: st) w Q := z_gun ((zF300_19 1251 (by decide)).trans rfl)
set_option maxRecDepth 100000 in
theorem g300_1253 {d : Nat} {u : Nat × Nat} {ls st : List z_V} {w : z_W} {Q : z_P} : z_G d u 300 1253 ls st w Q ↔ z_G d u 300 1255 ls (z_i (6) :: st) w Q := z_gun ((zF300_19 1253 (by decide)).trans rfl)
set_option maxRecDepth 100000 in
theorem g300_1255 {d : Nat} {u : Nat × Nat} {ls st : List z_V} {w : z_W} {Q : z_P} {x y : Int} : z_G d u 300 1255 ls (z_i y :: z_i x :: st) w Q ↔ z_G d u 300 1256 ls (z_i (z_add x y) :: st) w Q := z_gun ((zF300_19 1255 (by decide)).trans rfl)
set_option maxRecDepth 100000 in
theorem g300_1256 {d : Nat} {u : Nat × Nat} {ls st : List z_V} {w : z_W} {Q : z_P} {p : Nat} {i : Int} : z_G d u 300 1256 ls (z_i i :: z_r p :: st) w Q ↔ ((z_k w p = 100 ∨ z_k w p = 103) ∧ 0 ≤ i ∧ i < z_len w p ∧ (z_rg (z_I w p i) → z_G d u 300 1257 ls (z_i (z_I w p i) :: st) w Q)) := z_gun ((zF300_19 1256 (by decide)).trans rfl)
set_option maxRecDepth 100000 in
theorem g300_1257 {d : Nat} {u : Nat × Nat} {ls st : List z_V} {w : z_W} {Q : z_P} {p : Nat} {x0 x1 x2 x3 x4 x5 : Int} : z_G (d + 1) u 300 1257 ls (z_i x5 :: z_i x4 :: z_i x3 :: z_i x2 :: z_i x1 :: z_i x0 :: z_r p :: st) w Q ↔ (z_k w p = 12 ∧ z_c8 st 8 = true ∧ z_G d (0, 0) 274 0 [z_r p, z_i x0, z_i x1, z_i x2, z_i x3, z_i x4, z_i x5, z_x] [] w (fun r w' => z_G (d + 1) u 300 1260 ls (r.toList ++ st) w' Q)) := z_gcaV (d := d) (m := 300) (pc := 1257) (m' := 274) (k := 7) (nL := 8) (nx := 1260) (ci := 12) (p := p) (u := u) (ls := ls) (st := st) (w := w) (Q := Q) (vs := [z_r p, z_i x0, z_i x1, z_i x2, z_i x3, z_i x4, z_i x5]) ((zF300_19 1257 (by decide)).trans rfl) rfl rfl
set_option maxRecDepth 100000 in
theorem g300_1260 {d : Nat} {u : Nat × Nat} {ls st : List z_V} {w : z_W} {Q : z_P} {x : Int} : z_G d u 300 1260 ls (z_i x :: st) w Q ↔ z_G d u 300 1261 ls st w Q := z_gun ((zF300_19 1260 (by decide)).trans rfl)
set_option maxRecDepth 100000 in
theorem g300_1260r {d : Nat} {u : Nat × Nat} {ls st : List z_V} {w : z_W} {Q : z_P} {k : Nat} : z_G d u 300 1260 ls (z_r k :: st) w Q ↔ z_G d u 300 1261 ls st w Q := z_gun ((zF300_19 1260 (by decide)).trans rfl)
set_option maxRecDepth 100000 in
theorem g300_1261 {d : Nat} {u : Nat × Nat} {ls st : List z_V} {w : z_W} {Q : z_P} : z_G d u 300 1261 ls st w Q ↔ z_G d u 300 1586 ls st w Q := z_gun ((zF300_19 1261 (by decide)).trans rfl)
set_option maxRecDepth 100000 in
theorem g300_1264 {d : Nat} {u : Nat × Nat} {ls st : List z_V} {w : z_W} {Q : z_P} {o : Option Nat} {a0 : z_V} : z_G d u 300 1264 (a0 :: z_vr o :: ls) st w Q ↔ z_G d u 300 1265 (a0 :: z_vr o :: ls) (z_vr o :: st) w Q := z_gun ((zF300_19 1264 (by decide)).trans rfl)
set_option maxRecDepth 100000 in
theorem g300_1264r {d : Nat} {u : Nat × Nat} {ls st : List z_V} {w : z_W} {Q : z_P} {k : Nat} {a0 : z_V} : z_G d u 300 1264 (a0 :: z_r k :: ls) st w Q ↔ z_G d u 300 1265 (a0 :: z_r k :: ls) (z_r k :: st) w Q := z_gun ((zF300_19 1264 (by decide)).trans rfl)
set_option maxRecDepth 100000 in
theorem g300_1265 {d : Nat} {u : Nat × Nat} {ls st : List z_V} {w : z_W} {Q : z_P} {o : Option Nat} : z_G d u 300 1265 (z_vr o :: ls) st w Q ↔ z_G d u 300 1266 (z_vr o :: ls) (z_vr o :: st) w Q := z_gun ((zF300_20 1265 (by decide)).trans rfl)
set_option maxRecDepth 100000 in
theorem g300_1265r {d : Nat} {u : Nat × Nat} {ls st : List z_V} {w : z_W} {Q : z_P} {k : Nat} : z_G d u 300 1265 (z_r k :: ls) st w Q ↔ z_G d u 300 1266 (z_r k :: ls) (z_r k :: st) w Q := z_gun ((zF300_20 1265 (by decide)).trans rfl)
set_option maxRecDepth 100000 in
theorem g300_1266 {d : Nat} {u : Nat × Nat} {ls st : List z_V} {w : z_W} {Q : z_P} {z : Int} {a0 a1 a2 a3 : z_V} : z_G d u 300 1266 (a0 :: a1 :: a2 :: a3 :: z_i z :: ls) st w Q ↔ z_G d u 300 1268 (a0 :: a1 :: a2 :: a3 :: z_i z :: ls) (z_i z :: st) w Q := z_gun ((zF300_20 1266 (by decide)).trans rfl)
set_option maxRecDepth 100000 in
theorem g300_1268 {d : Nat} {u : Nat × Nat} {ls st : List z_V} {w : z_W} {Q : z_P} : z_G d u 300 1268 ls st w Q ↔ z_G d u 300 1269 ls (z_i (1) :: st) w Q := z_gun ((zF300_20 1268 (by decide)).trans rfl)
set_option maxRecDepth 100000 in
theorem g300_1269 {d : Nat} {u : Nat × Nat} {ls st : List z_V} {w : z_W} {Q : z_P} {x y : Int} : z_G d u 300 1269 ls (z_i y :: z_i x :: st) w Q ↔ z_G d u 300 1270 ls (z_i (z_add x y) :: st) w Q := z_gun ((zF300_20 1269 (by decide)).trans rfl)
set_option maxRecDepth 100000 in
theorem g300_1270 {d : Nat} {u : Nat × Nat} {ls st : List z_V} {w : z_W} {Q : z_P} {p : Nat} {i : Int} : z_G d u 300 1270 ls (z_i i :: z_r p :: st) w Q ↔ ((z_k w p = 100 ∨ z_k w p = 103) ∧ 0 ≤ i ∧ i < z_len w p ∧ (z_rg (z_I w p i) → z_G d u 300 1271 ls (z_i (z_I w p i) :: st) w Q)) := z_gun ((zF300_20 1270 (by decide)).trans rfl)
set_option maxRecDepth 100000 in
theorem g300_1271 {d : Nat} {u : Nat × Nat} {ls st : List z_V} {w : z_W} {Q : z_P} {o : Option Nat} : z_G d u 300 1271 (z_vr o :: ls) st w Q ↔ z_G d u 300 1272 (z_vr o :: ls) (z_vr o :: st) w Q := z_gun ((zF300_20 1271 (by decide)).trans rfl)
set_option maxRecDepth 100000 in
theorem g300_1271r {d : Nat} {u : Nat × Nat} {ls st : List z_V} {w : z_W} {Q : z_P} {k : Nat} : z_G d u 300 1271 (z_r k :: ls) st w Q ↔ z_G d u 300 1272 (z_r k :: ls) (z_r k :: st) w Q := z_gun ((zF300_20 1271 (by decide)).trans rfl)
set_option maxRecDepth 100000 in
theorem g300_1272 {d : Nat} {u : Nat × Nat} {ls st : List z_V} {w : z_W} {Q : z_P} {z : Int} {a0 a1 a2 a3 : z_V} : z_G d u 300 1272 (a0 :: a1 :: a2 :: a3 :: z_i z :: ls) st w Q ↔ z_G d u 300 1274 (a0 :: a1 :: a2 :: a3 :: z_i z :: ls) (z_i z :: st) w Q := z_gun ((zF300_20 1272 (by decide)).trans rfl)
set_option maxRecDepth 100000 in
theorem g300_1274 {d : Nat} {u : Nat × Nat} {ls st : List z_V} {w : z_W} {Q : z_P} : z_G d u 300 1274 ls st w Q ↔ z_G d u 300 1275 ls (z_i (2) :: st) w Q := z_gun ((zF300_20 1274 (by decide)).trans rfl)
set_option maxRecDepth 100000 in
theorem g300_1275 {d : Nat} {u : Nat × Nat} {ls st : List z_V} {w : z_W} {Q : z_P} {x y : Int} : z_G d u 300 1275 ls (z_i y :: z_i x :: st) w Q ↔ z_G d u 300 1276 ls (z_i (z_add x y) :: st) w Q := z_gun ((zF300_20 1275 (by decide)).trans rfl)
set_option maxRecDepth 100000 in
theorem g300_1276 {d : Nat} {u : Nat × Nat} {ls st : List z_V} {w : z_W} {Q : z_P} {p : Nat} {i : Int} : z_G d u 300 1276 ls (z_i i :: z_r p :: st) w Q ↔ ((z_k w p = 100 ∨ z_k w p = 103) ∧ 0 ≤ i ∧ i < z_len w p ∧ (z_rg (z_I w p i) → z_G d u 300 1277 ls (z_i (z_I w p i) :: st) w Q)) := z_gun ((zF300_20 1276 (by decide)).trans rfl)
set_option maxRecDepth 100000 in
theorem g300_1277 {d : Nat} {u : Nat × Nat} {ls st : List z_V} {w : z_W} {Q : z_P} {o : Option Nat} : z_G d u 300 1277 (z_vr o :: ls) st w Q ↔ z_G d u 300 1278 (z_vr o :: ls) (z_vr o :: st) w Q := z_gun ((zF300_20 1277 (by decide)).trans rfl)
set_option maxRecDepth 100000 in
theorem g300_1277r {d : Nat} {u : Nat × Nat} {ls st : List z_V} {w : z_W} {Q : z_P} {k : Nat} : z_G d u 300 1277 (z_r k :: ls) st w Q ↔ z_G d u 300 1278 (z_r k :: ls) (z_r k :: st) w Q := z_gun ((zF300_20 1277 (by decide)).trans rfl)
set_option maxRecDepth 100000 in
theorem g300_1278 {d : Nat} {u : Nat × Nat} {ls st : List z_V} {w : z_W} {Q : z_P} {z : Int} {a0 a1 a2 a3 : z_V} : z_G d u 300 1278 (a0 :: a1 :: a2 :: a3 :: z_i z :: ls) st w Q ↔ z_G d u 300 1280 (a0 :: a1 :: a2 :: a3 :: z_i z :: ls) (z_i z :: st) w Q := z_gun ((zF300_20 1278 (by decide)).trans rfl)
set_option maxRecDepth 100000 in
theorem g300_1280 {d : Nat} {u : Nat × Nat} {ls st : List z_V} {w : z_W} {Q : z_P} : z_G d u 300 1280 ls st w Q ↔ z_G d u 300 1281 ls (z_i (3) :: st) w Q := z_gun ((zF300_20 1280 (by decide)).trans rfl)
set_option maxRecDepth 100000 in
theorem g300_1281 {d : Nat} {u : Nat × Nat} {ls st : List z_V} {w : z_W} {Q : z_P} {x y : Int} : z_G d u 300 1281 ls (z_i y :: z_i x :: st) w Q ↔ z_G d u 300 1282 ls (z_i (z_add x y) :: st) w Q := z_gun ((zF300_20 1281 (by decide)).trans rfl)
set_option maxRecDepth 100000 in
theorem g300_1282 {d : Nat} {u : Nat × Nat} {ls st : List z_V} {w : z_W} {Q : z_P} {p : Nat} {i : Int} : z_G d u 300 1282 ls (z_i i :: z_r p :: st) w Q ↔ ((z_k w p = 100 ∨ z_k w p = 103) ∧ 0 ≤ i ∧ i < z_len w p ∧ (z_rg (z_I w p i) → z_G d u 300 1283 ls (z_i (z_I w p i) :: st) w Q)) := z_gun ((zF300_20 1282 (by decide)).trans rfl)
set_option maxRecDepth 100000 in
theorem g300_1283 {d : Nat} {u : Nat × Nat} {ls st : List z_V} {w : z_W} {Q : z_P} {o : Option Nat} : z_G d u 300 1283 (z_vr o :: ls) st w Q ↔ z_G d u 300 1284 (z_vr o :: ls) (z_vr o :: st) w Q := z_gun ((zF300_20 1283 (by decide)).trans rfl)
set_option maxRecDepth 100000 in
theorem g300_1283r {d : Nat} {u : Nat × Nat} {ls st : List z_V} {w : z_W} {Q : z_P} {k : Nat} : z_G d u 300 1283 (z_r k :: ls) st w Q ↔ z_G d u 300 1284 (z_r k :: ls) (z_r k :: st) w Q := z_gun ((zF300_20 1283 (by decide)).trans rfl)
set_option maxRecDepth 100000 in
theorem g300_1284 {d : Nat} {u : Nat × Nat} {ls st : List z_V} {w : z_W} {Q : z_P} {z : Int} {a0 a1 a2 a3 : z_V} : z_G d u 300 1284 (a0 :: a1 :: a2 :: a3 :: z_i z :: ls) st w Q ↔ z_G d u 300 1286 (a0 :: a1 :: a2 :: a3 :: z_i z :: ls) (z_i z :: st) w Q := z_gun ((zF300_20 1284 (by decide)).trans rfl)
set_option maxRecDepth 100000 in
theorem g300_1286 {d : Nat} {u : Nat × Nat} {ls st : List z_V} {w : z_W} {Q : z_P} : z_G d u 300 1286 ls st w Q ↔ z_G d u 300 1287 ls (z_i (4) :: st) w Q := z_gun ((zF300_20 1286 (by decide)).trans rfl)
set_option maxRecDepth 100000 in
theorem g300_1287 {d : Nat} {u : Nat × Nat} {ls st : List z_V} {w : z_W} {Q : z_P} {x y : Int} : z_G d u 300 1287 ls (z_i y :: z_i x :: st) w Q ↔ z_G d u 300 1288 ls (z_i (z_add x y) :: st) w Q := z_gun ((zF300_20 1287 (by decide)).trans rfl)
set_option maxRecDepth 100000 in
theorem g300_1288 {d : Nat} {u : Nat × Nat} {ls st : List z_V} {w : z_W} {Q : z_P} {p : Nat} {i : Int} : z_G d u 300 1288 ls (z_i i :: z_r p :: st) w Q ↔ ((z_k w p = 100 ∨ z_k w p = 103) ∧ 0 ≤ i ∧ i < z_len w p ∧ (z_rg (z_I w p i) → z_G d u 300 1289 ls (z_i (z_I w p i) :: st) w Q)) := z_gun ((zF300_20 1288 (by decide)).trans rfl)
set_option maxRecDepth 100000 in
theorem g300_1289 {d : Nat} {u : Nat × Nat} {ls st : List z_V} {w : z_W} {Q : z_P} {p : Nat} {x0 x1 x2 x3 : Int} : z_G (d + 1) u 300 1289 ls (z_i x3 :: z_i x2 :: z_i x1 :: z_i x0 :: z_r p :: st) w Q ↔ (z_k w p = 11 ∧ z_c8 st 8 = true ∧ z_G d (0, 0) 154 0 [z_r p, z_i x0, z_i x1, z_i x2, z_i x3] [] w (fun r w' => z_G (d + 1) u 300 1292 ls (r.toList ++ st) w' Q)) := z_gcaV (d := d) (m := 300) (pc := 1289) (m' := 154) (k := 5) (nL := 5) (nx := 1292) (ci := 11) (p := p) (u := u) (ls := ls) (st := st) (w := w) (Q := Q) (vs := [z_r p, z_i x0, z_i x1, z_i x2, z_i x3]) ((zF300_20 1289 (by decide)).trans rfl) rfl rfl
set_option maxRecDepth 100000 in
theorem g300_1292 {d : Nat} {u : Nat × Nat} {ls st : List z_V} {w : z_W} {Q : z_P} {x : Int} : z_G d u 300 1292 ls (z_i x :: st) w Q ↔ z_G d u 300 1293 ls st w Q := z_gun ((zF300_20 1292 (by decide)).trans rfl)
set_option maxRecDepth 100000 in
theorem g300_1292r {d : Nat} {u : Nat × Nat} {ls st : List z_V} {w : z_W} {Q : z_P} {k : Nat} : z_G d u 300 1292 ls (z_r k :: st) w Q ↔ z_G d u 300 1293 ls st w Q := z_gun ((zF300_20 1292 (by decide)).trans rfl)
set_option maxRecDepth 100000 in
theorem g300_1293 {d : Nat} {u : Nat × Nat} {ls st : List z_V} {w : z_W} {Q : z_P} {o : Option Nat} {a0 a1 : z_V} : z_G d u 300 1293 (a0 :: a1 :: z_vr o :: ls) st w Q ↔ z_G d u 300 1294 (a0 :: a1 :: z_vr o :: ls) (z_vr o :: st) w Q := z_gun ((zF300_20 1293 (by decide)).trans rfl)
set_option maxRecDepth 100000 in
theorem g300_1293r {d : Nat} {u : Nat × Nat} {ls st : List z_V} {w : z_W} {Q : z_P} {k : Nat} {a0 a1 : z_V} : z_G d u 300 1293 (a0 :: a1 :: z_r k :: ls) st w Q ↔ z_G d u 300 1294 (a0 :: a1 :: z_r k :: ls) (z_r k :: st) w Q := z_gun ((zF300_20 1293 (by decide)).trans rfl)
set_option maxRecDepth 100000 in
theorem g300_1294 {d : Nat} {u : Nat × Nat} {ls st : List z_V} {w : z_W} {Q : z_P} {o : Option Nat} : z_G d u 300 1294 (z_vr o :: ls) st w Q ↔ z_G d u 300 1295 (z_vr o :: ls) (z_vr o :: st) w Q := z_gun ((zF300_20 1294 (by decide)).trans rfl)
set_option maxRecDepth 100000 in
theorem g300_1294r {d : Nat} {u : Nat × Nat} {ls st : List z_V} {w : z_W} {Q : z_P} {k : Nat} : z_G d u 300 1294 (z_r k :: ls) st w Q ↔ z_G d u 300 1295 (z_r k :: ls) (z_r k :: st) w Q := z_gun ((zF300_20 1294 (by decide)).trans rfl)
set_option maxRecDepth 100000 in
theorem g300_1295 {d : Nat} {u : Nat × Nat} {ls st : List z_V} {w : z_W} {Q : z_P} {z : Int} {a0 a1 a2 a3 : z_V} : z_G d u 300 1295 (a0 :: a1 :: a2 :: a3 :: z_i z :: ls) st w Q ↔ z_G d u 300 1297 (a0 :: a1 :: a2 :: a3 :: z_i z :: ls) (z_i z :: st) w Q := z_gun ((zF300_20 1295 (by decide)).trans rfl)
set_option maxRecDepth 100000 in
theorem g300_1297 {d : Nat} {u : Nat × Nat} {ls st : List z_V} {w : z_W} {Q : z_P} : z_G d u 300 1297 ls st w Q ↔ z_G d u 300 1298 ls (z_i (1) :: st) w Q := z_gun ((zF300_20 1297 (by decide)).trans rfl)
set_option maxRecDepth 100000 in
theorem g300_1298 {d : Nat} {u : Nat × Nat} {ls st : List z_V} {w : z_W} {Q : z_P} {x y : Int} : z_G d u 300 1298 ls (z_i y :: z_i x :: st) w Q ↔ z_G d u 300 1299 ls (z_i (z_add x y) :: st) w Q := z_gun ((zF300_20 1298 (by decide)).trans rfl)
set_option maxRecDepth 100000 in
theorem g300_1299 {d : Nat} {u : Nat × Nat} {ls st : List z_V} {w : z_W} {Q : z_P} {p : Nat} {i : Int} : z_G d u 300 1299 ls (z_i i :: z_r p :: st) w Q ↔ ((z_k w p = 100 ∨ z_k w p = 103) ∧ 0 ≤ i ∧ i < z_len w p ∧ (z_rg (z_I w p i) → z_G d u 300 1300 ls (z_i (z_I w p i) :: st) w Q)) := z_gun ((zF300_20 1299 (by decide)).trans rfl)
set_option maxRecDepth 100000 in
theorem g300_1300 {d : Nat} {u : Nat × Nat} {ls st : List z_V} {w : z_W} {Q : z_P} {o : Option Nat} : z_G d u 300 1300 (z_vr o :: ls) st w Q ↔ z_G d u 300 1301 (z_vr o :: ls) (z_vr o :: st) w Q := z_gun ((zF300_20 1300 (by decide)).trans rfl)
set_option maxRecDepth 100000 in
theorem g300_1300r {d : Nat} {u : Nat × Nat} {ls st : List z_V} {w : z_W} {Q : z_P} {k : Nat} : z_G d u 300 1300 (z_r k :: ls) st w Q ↔ z_G d u 300 1301 (z_r k :: ls) (z_r k :: st) w Q := z_gun ((zF300_20 1300 (by decide)).trans rfl)
set_option maxRecDepth 100000 in
theorem g300_1301 {d : Nat} {u : Nat × Nat} {ls st : List z_V} {w : z_W} {Q : z_P} {z : Int} {a0 a1 a2 a3 : z_V} : z_G d u 300 1301 (a0 :: a1 :: a2 :: a3 :: z_i z :: ls) st w Q ↔ z_G d u 300 1303 (a0 :: a1 :: a2 :: a3 :: z_i z :: ls) (z_i z :: st) w Q := z_gun ((zF300_20 1301 (by decide)).trans rfl)
set_option maxRecDepth 100000 in
theorem g300_1303 {d : Nat} {u : Nat × Nat} {ls st : List z_V} {w : z_W} {Q : z_P} : z_G d u 300 1303 ls st w Q ↔ z_G d u 300 1304 ls (z_i (2) :: st) w Q := z_gun ((zF300_20 1303 (by decide)).trans rfl)
set_option maxRecDepth 100000 in
theorem g300_1304 {d : Nat} {u : Nat × Nat} {ls st : List z_V} {w : z_W} {Q : z_P} {x y : Int} : z_G d u 300 1304 ls (z_i y :: z_i x :: st) w Q ↔ z_G d u 300 1305 ls (z_i (z_add x y) :: st) w Q := z_gun ((zF300_20 1304 (by decide)).trans rfl)
set_option maxRecDepth 100000 in
theorem g300_1305 {d : Nat} {u : Nat × Nat} {ls st : List z_V} {w : z_W} {Q : z_P} {p : Nat} {i : Int} : z_G d u 300 1305 ls (z_i i :: z_r p :: st) w Q ↔ ((z_k w p = 100 ∨ z_k w p = 103) ∧ 0 ≤ i ∧ i < z_len w p ∧ (z_rg (z_I w p i) → z_G d u 300 1306 ls (z_i (z_I w p i) :: st) w Q)) := z_gun ((zF300_20 1305 (by decide)).trans rfl)
set_option maxRecDepth 100000 in
theorem g300_1306 {d : Nat} {u : Nat × Nat} {ls st : List z_V} {w : z_W} {Q : z_P} {o : Option Nat} : z_G d u 300 1306 (z_vr o :: ls) st w Q ↔ z_G d u 300 1307 (z_vr o :: ls) (z_vr o :: st) w Q := z_gun ((zF300_20 1306 (by decide)).trans rfl)
set_option maxRecDepth 100000 in
theorem g300_1306r {d : Nat} {u : Nat × Nat} {ls st : List z_V} {w : z_W} {Q : z_P} {k : Nat} : z_G d u 300 1306 (z_r k :: ls) st w Q ↔ z_G d u 300 1307 (z_r k :: ls) (z_r k :: st) w Q := z_gun ((zF300_20 1306 (by decide)).trans rfl)
set_option maxRecDepth 100000 in
theorem g300_1307 {d : Nat} {u : Nat × Nat} {ls st : List z_V} {w : z_W} {Q : z_P} {z : Int} {a0 a1 a2 a3 : z_V} : z_G d u 300 1307 (a0 :: a1 :: a2 :: a3 :: z_i z :: ls) st w Q ↔ z_G d u 300 1309 (a0 :: a1 :: a2 :: a3 :: z_i z :: ls) (z_i z :: st) w Q := z_gun ((zF300_20 1307 (by decide)).trans rfl)
set_option maxRecDepth 100000 in
theorem g300_1309 {d : Nat} {u : Nat × Nat} {ls st : List z_V} {w : z_W} {Q : z_P} : z_G d u 300 1309 ls st w Q ↔ z_G d u 300 1310 ls (z_i (3) :: st) w Q := z_gun ((zF300_20 1309 (by decide)).trans rfl)
set_option maxRecDepth 100000 in
theorem g300_1310 {d : Nat} {u : Nat × Nat} {ls st : List z_V} {w : z_W} {Q : z_P} {x y : Int} : z_G d u 300 1310 ls (z_i y :: z_i x :: st) w Q ↔ z_G d u 300 1311 ls (z_i (z_add x y) :: st) w Q := z_gun ((zF300_20 1310 (by decide)).trans rfl)
set_option maxRecDepth 100000 in
theorem g300_1311 {d : Nat} {u : Nat × Nat} {ls st : List z_V} {w : z_W} {Q : z_P} {p : Nat} {i : Int} : z_G d u 300 1311 ls (z_i i :: z_r p :: st) w Q ↔ ((z_k w p = 100 ∨ z_k w p = 103) ∧ 0 ≤ i ∧ i < z_len w p ∧ (z_rg (z_I w p i) → z_G d u 300 1312 ls (z_i (z_I w p i) :: st) w Q)) := z_gun ((zF300_20 1311 (by decide)).trans rfl)
set_option maxRecDepth 100000 in
theorem g300_1312 {d : Nat} {u : Nat × Nat} {ls st : List z_V} {w : z_W} {Q : z_P} {o : Option Nat} : z_G d u 300 1312 (z_vr o :: ls) st w Q ↔ z_G d u 300 1313 (z_vr o :: ls) (z_vr o :: st) w Q := z_gun ((zF300_20 1312 (by decide)).trans rfl)
set_option maxRecDepth 100000 in
theorem g300_1312r {d : Nat} {u : Nat × Nat} {ls st : List z_V} {w : z_W} {Q : z_P} {k : Nat} : z_G d u 300 1312 (z_r k :: ls) st w Q ↔ z_G d u 300 1313 (z_r k :: ls) (z_r k :: st) w Q := z_gun ((zF300_20 1312 (by decide)).trans rfl)
set_option maxRecDepth 100000 in
theorem g300_1313 {d : Nat} {u : Nat × Nat} {ls st : List z_V} {w : z_W} {Q : z_P} {z : Int} {a0 a1 a2 a3 : z_V} : z_G d u 300 1313 (a0 :: a1 :: a2 :: a3 :: z_i z :: ls) st w Q ↔ z_G d u 300 1315 (a0 :: a1 :: a2 :: a3 :: z_i z :: ls) (z_i z :: st) w Q := z_gun ((zF300_20 1313 (by decide)).trans rfl)
set_option maxRecDepth 100000 in
theorem g300_1315 {d : Nat} {u : Nat × Nat} {ls st : List z_V} {w : z_W} {Q : z_P} : z_G d u 300 1315 ls st w Q ↔ z_G d u 300 1316 ls (z_i (4) :: st) w Q := z_gun ((zF300_21 1315 (by decide)).trans rfl)
set_option maxRecDepth 100000 in
theorem g300_1316 {d : Nat} {u : Nat × Nat} {ls st : List z_V} {w : z_W} {Q : z_P} {x y : Int} : z_G d u 300 1316 ls (z_i y :: z_i x :: st) w Q ↔ z_G d u 300 1317 ls (z_i (z_add x y) :: st) w Q := z_gun ((zF300_21 1316 (by decide)).trans rfl)
set_option maxRecDepth 100000 in
theorem g300_1317 {d : Nat} {u : Nat × Nat} {ls st : List z_V} {w : z_W} {Q : z_P} {p : Nat} {i : Int} : z_G d u 300 1317 ls (z_i i :: z_r p :: st) w Q ↔ ((z_k w p = 100 ∨ z_k w p = 103) ∧ 0 ≤ i ∧ i < z_len w p ∧ (z_rg (z_I w p i) → z_G d u 300 1318 ls (z_i (z_I w p i) :: st) w Q)) := z_gun ((zF300_21 1317 (by decide)).trans rfl)
set_option maxRecDepth 100000 in
theorem g300_1318 {d : Nat} {u : Nat × Nat} {ls st : List z_V} {w : z_W} {Q : z_P} {p : Nat} {x0 x1 x2 x3 : Int} : z_G (d + 1) u 300 1318 ls (z_i x3 :: z_i x2 :: z_i x1 :: z_i x0 :: z_r p :: st) w Q ↔ (z_k w p = 12 ∧ z_c8 st 8 = true ∧ z_G d (0, 0) 275 0 [z_r p, z_i x0, z_i x1, z_i x2, z_i x3] [] w (fun r w' => z_G (d + 1) u 300 1321 ls (r.toList ++ st) w' Q)) := z_gcaV (d := d) (m := 300) (pc := 1318) (m' := 275) (k := 5) (nL := 5) (nx := 1321) (ci := 12) (p := p) (u := u) (ls := ls) (st := st) (w := w) (Q := Q) (vs := [z_r p, z_i x0, z_i x1, z_i x2, z_i x3]) ((zF300_21 1318 (by decide)).trans rfl) rfl rfl
set_option maxRecDepth 100000 in
theorem g300_1321 {d : Nat} {u : Nat × Nat} {ls st : List z_V} {w : z_W} {Q : z_P} {x : Int} : z_G d u 300 1321 ls (z_i x :: st) w Q ↔ z_G d u 300 1322 ls st w Q := z_gun ((zF300_21 1321 (by decide)).trans rfl)
set_option maxRecDepth 100000 in
theorem g300_1321r {d : Nat} {u : Nat × Nat} {ls st : List z_V} {w : z_W} {Q : z_P} {k : Nat} : z_G d u 300 1321 ls (z_r k :: st) w Q ↔ z_G d u 300 1322 ls st w Q := z_gun ((zF300_21 1321 (by decide)).trans rfl)
set_option maxRecDepth 100000 in
theorem g300_1322 {d : Nat} {u : Nat × Nat} {ls st : List z_V} {w : z_W} {Q : z_P} : z_G d u 300 1322 ls st w Q ↔ z_G d u 300 1586 ls st w Q := z_gun ((zF300_21 1322 (by decide)).trans rfl)
set_option maxRecDepth 100000 in
theorem g300_1325 {d : Nat} {u : Nat × Nat} {ls st : List z_V} {w : z_W} {Q : z_P} {o : Option Nat} {a0 : z_V} : z_G d u 300 1325 (a0 :: z_vr o :: ls) st w Q ↔ z_G d u 300 1326 (a0 :: z_vr o :: ls) (z_vr o :: st) w Q := z_gun ((zF300_21 1325 (by decide)).trans rfl)
set_option maxRecDepth 100000 in
theorem g300_1325r {d : Nat} {u : Nat × Nat} {ls st : List z_V} {w : z_W} {Q : z_P} {k : Nat} {a0 : z_V} : z_G d u 300 1325 (a0 :: z_r k :: ls) st w Q ↔ z_G d u 300 1326 (a0 :: z_r k :: ls) (z_r k :: st) w Q := z_gun ((zF300_21 1325 (by decide)).trans rfl)
set_option maxRecDepth 100000 in
theorem g300_1326 {d : Nat} {u : Nat × Nat} {ls st : List z_V} {w : z_W} {Q : z_P} {o : Option Nat} : z_G d u 300 1326 (z_vr o :: ls) st w Q ↔ z_G d u 300 1327 (z_vr o :: ls) (z_vr o :: st) w Q := z_gun ((zF300_21 1326 (by decide)).trans rfl)
set_option maxRecDepth 100000 in
theorem g300_1326r {d : Nat} {u : Nat × Nat} {ls st : List z_V} {w : z_W} {Q : z_P} {k : Nat} : z_G d u 300 1326 (z_r k :: ls) st w Q ↔ z_G d u 300 1327 (z_r k :: ls) (z_r k :: st) w Q := z_gun ((zF300_21 1326 (by decide)).trans rfl)
set_option maxRecDepth 100000 in
theorem g300_1327 {d : Nat} {u : Nat × Nat} {ls st : List z_V} {w : z_W} {Q : z_P} {z : Int} {a0 a1 a2 a3 : z_V} : z_G d u 300 1327 (a0 :: a1 :: a2 :: a3 :: z_i z :: ls) st w Q ↔ z_G d u 300 1329 (a0 :: a1 :: a2 :: a3 :: z_i z :: ls) (z_i z :: st) w Q := z_gun ((zF300_21 1327 (by decide)).trans rfl)
set_option maxRecDepth 100000 in
theorem g300_1329 {d : Nat} {u : Nat × Nat} {ls st : List z_V} {w : z_W} {Q : z_P} : z_G d u 300 1329 ls st w Q ↔ z_G d u 300 1330 ls (z_i (1) :: st) w Q := z_gun ((zF300_21 1329 (by decide)).trans rfl)
set_option maxRecDepth 100000 in
theorem g300_1330 {d : Nat} {u : Nat × Nat} {ls st : List z_V} {w : z_W} {Q : z_P} {x y : Int} : z_G d u 300 1330 ls (z_i y :: z_i x :: st) w Q ↔ z_G d u 300 1331 ls (z_i (z_add x y) :: st) w Q := z_gun ((zF300_21 1330 (by decide)).trans rfl)
set_option maxRecDepth 100000 in
theorem g300_1331 {d : Nat} {u : Nat × Nat} {ls st : List z_V} {w : z_W} {Q : z_P} {p : Nat} {i : Int} : z_G d u 300 1331 ls (z_i i :: z_r p :: st) w Q ↔ ((z_k w p = 100 ∨ z_k w p = 103) ∧ 0 ≤ i ∧ i < z_len w p ∧ (z_rg (z_I w p i) → z_G d u 300 1332 ls (z_i (z_I w p i) :: st) w Q)) := z_gun ((zF300_21 1331 (by decide)).trans rfl)
set_option maxRecDepth 100000 in
theorem g300_1332 {d : Nat} {u : Nat × Nat} {ls st : List z_V} {w : z_W} {Q : z_P} {o : Option Nat} : z_G d u 300 1332 (z_vr o :: ls) st w Q ↔ z_G d u 300 1333 (z_vr o :: ls) (z_vr o :: st) w Q := z_gun ((zF300_21 1332 (by decide)).trans rfl)
set_option maxRecDepth 100000 in
theorem g300_1332r {d : Nat} {u : Nat × Nat} {ls st : List z_V} {w : z_W} {Q : z_P} {k : Nat} : z_G d u 300 1332 (z_r k :: ls) st w Q ↔ z_G d u 300 1333 (z_r k :: ls) (z_r k :: st) w Q := z_gun ((zF300_21 1332 (by decide)).trans rfl)
set_option maxRecDepth 100000 in
theorem g300_1333 {d : Nat} {u : Nat × Nat} {ls st : List z_V} {w : z_W} {Q : z_P} {z : Int} {a0 a1 a2 a3 : z_V} : z_G d u 300 1333 (a0 :: a1 :: a2 :: a3 :: z_i z :: ls) st w Q ↔ z_G d u 300 1335 (a0 :: a1 :: a2 :: a3 :: z_i z :: ls) (z_i z :: st) w Q := z_gun ((zF300_21 1333 (by decide)).trans rfl)
set_option maxRecDepth 100000 in
theorem g300_1335 {d : Nat} {u : Nat × Nat} {ls st : List z_V} {w : z_W} {Q : z_P} : z_G d u 300 1335 ls st w Q ↔ z_G d u 300 1336 ls (z_i (2) :: st) w Q := z_gun ((zF300_21 1335 (by decide)).trans rfl)
set_option maxRecDepth 100000 in
theorem g300_1336 {d : Nat} {u : Nat × Nat} {ls st : List z_V} {w : z_W} {Q : z_P} {x y : Int} : z_G d u 300 1336 ls (z_i y :: z_i x :: st) w Q ↔ z_G d u 300 1337 ls (z_i (z_add x y) :: st) w Q := z_gun ((zF300_21 1336 (by decide)).trans rfl)
set_option maxRecDepth 100000 in
theorem g300_1337 {d : Nat} {u : Nat × Nat} {ls st : List z_V} {w : z_W} {Q : z_P} {p : Nat} {i : Int} : z_G d u 300 1337 ls (z_i i :: z_r p :: st) w Q ↔ ((z_k w p = 100 ∨ z_k w p = 103) ∧ 0 ≤ i ∧ i < z_len w p ∧ (z_rg (z_I w p i) → z_G d u 300 1338 ls (z_i (z_I w p i) :: st) w Q)) := z_gun ((zF300_21 1337 (by decide)).trans rfl)
set_option maxRecDepth 100000 in
theorem g300_1338 {d : Nat} {u : Nat × Nat} {ls st : List z_V} {w : z_W} {Q : z_P} {p : Nat} {x0 x1 : Int} : z_G (d + 1) u 300 1338 ls (z_i x1 :: z_i x0 :: z_r p :: st) w Q ↔ (z_k w p = 11 ∧ z_c8 st 8 = true ∧ z_G d (0, 0) 155 0 [z_r p, z_i x0, z_i x1, z_x, z_x, z_x] [] w (fun r w' => z_G (d + 1) u 300 1341 ls (r.toList ++ st) w' Q)) := z_gcaV (d := d) (m := 300) (pc := 1338) (m' := 155) (k := 3) (nL := 6) (nx := 1341) (ci := 11) (p := p) (u := u) (ls := ls) (st := st) (w := w) (Q := Q) (vs := [z_r p, z_i x0, z_i x1]) ((zF300_21 1338 (by decide)).trans rfl) rfl rfl
set_option maxRecDepth 100000 in
theorem g300_1341 {d : Nat} {u : Nat × Nat} {ls st : List z_V} {w : z_W} {Q : z_P} {x : Int} : z_G d u 300 1341 ls (z_i x :: st) w Q ↔ z_G d u 300 1342 ls st w Q := z_gun ((zF300_21 1341 (by decide)).trans rfl)
set_option maxRecDepth 100000 in
theorem g300_1341r {d : Nat} {u : Nat × Nat} {ls st : List z_V} {w : z_W} {Q : z_P} {k : Nat} : z_G d u 300 1341 ls (z_r k :: st) w Q ↔ z_G d u 300 1342 ls st w Q := z_gun ((zF300_21 1341 (by decide)).trans rfl)
set_option maxRecDepth 100000 in
theorem g300_1342 {d : Nat} {u : Nat × Nat} {ls st : List z_V} {w : z_W} {Q : z_P} {o : Option Nat} {a0 a1 : z_V} : z_G d u 300 1342 (a0 :: a1 :: z_vr o :: ls) st w Q ↔ z_G d u 300 1343 (a0 :: a1 :: z_vr o :: ls) (z_vr o :: st) w Q := z_gun ((zF300_21 1342 (by decide)).trans rfl)
set_option maxRecDepth 100000 in
theorem g300_1342r {d : Nat} {u : Nat × Nat} {ls st : List z_V} {w : z_W} {Q : z_P} {k : Nat} {a0 a1 : z_V} : z_G d u 300 1342 (a0 :: a1 :: z_r k :: ls) st w Q ↔ z_G d u 300 1343 (a0 :: a1 :: z_r k :: ls) (z_r k :: st) w Q := z_gun ((zF300_21 1342 (by decide)).trans rfl)
set_option maxRecDepth 100000 in
theorem g300_1343 {d : Nat} {u : Nat × Nat} {ls st : List z_V} {w : z_W} {Q : z_P} {o : Option Nat} : z_G d u 300 1343 (z_vr o :: ls) st w Q ↔ z_G d u 300 1344 (z_vr o :: ls) (z_vr o :: st) w Q := z_gun ((zF300_21 1343 (by decide)).trans rfl)
set_option maxRecDepth 100000 in
theorem g300_1343r {d : Nat} {u : Nat × Nat} {ls st : List z_V} {w : z_W} {Q : z_P} {k : Nat} : z_G d u 300 1343 (z_r k :: ls) st w Q ↔ z_G d u 300 1344 (z_r k :: ls) (z_r k :: st) w Q := z_gun ((zF300_21 1343 (by decide)).trans rfl)
set_option maxRecDepth 100000 in
theorem g300_1344 {d : Nat} {u : Nat × Nat} {ls st : List z_V} {w : z_W} {Q : z_P} {z : Int} {a0 a1 a2 a3 : z_V} : z_G d u 300 1344 (a0 :: a1 :: a2 :: a3 :: z_i z :: ls) st w Q ↔ z_G d u 300 1346 (a0 :: a1 :: a2 :: a3 :: z_i z :: ls) (z_i z :: st) w Q := z_gun ((zF300_21 1344 (by decide)).trans rfl)
set_option maxRecDepth 100000 in
theorem g300_1346 {d : Nat} {u : Nat × Nat} {ls st : List z_V} {w : z_W} {Q : z_P} : z_G d u 300 1346 ls st w Q ↔ z_G d u 300 1347 ls (z_i (1) :: st) w Q := z_gun ((zF300_21 1346 (by decide)).trans rfl)
set_option maxRecDepth 100000 in
theorem g300_1347 {d : Nat} {u : Nat × Nat} {ls st : List z_V} {w : z_W} {Q : z_P} {x y : Int} : z_G d u 300 1347 ls (z_i y :: z_i x :: st) w Q ↔ z_G d u 300 1348 ls (z_i (z_add x y) :: st) w Q := z_gun ((zF300_21 1347 (by decide)).trans rfl)
set_option maxRecDepth 100000 in
theorem g300_1348 {d : Nat} {u : Nat × Nat} {ls st : List z_V} {w : z_W} {Q : z_P} {p : Nat} {i : Int} : z_G d u 300 1348 ls (z_i i :: z_r p :: st) w Q ↔ ((z_k w p = 100 ∨ z_k w p = 103) ∧ 0 ≤ i ∧ i < z_len w p ∧ (z_rg (z_I w p i) → z_G d u 300 1349 ls (z_i (z_I w p i) :: st) w Q)) := z_gun ((zF300_21 1348 (by decide)).trans rfl)
set_option maxRecDepth 100000 in
theorem g300_1349 {d : Nat} {u : Nat × Nat} {ls st : List z_V} {w : z_W} {Q : z_P} {o : Option Nat} : z_G d u 300 1349 (z_vr o :: ls) st w Q ↔ z_G d u 300 1350 (z_vr o :: ls) (z_vr o :: st) w Q := z_gun ((zF300_21 1349 (by decide)).trans rfl)
set_option maxRecDepth 100000 in
theorem g300_1349r {d : Nat} {u : Nat × Nat} {ls st : List z_V} {w : z_W} {Q : z_P} {k : Nat} : z_G d u 300 1349 (z_r k :: ls) st w Q ↔ z_G d u 300 1350 (z_r k :: ls) (z_r k :: st) w Q := z_gun ((zF300_21 1349 (by decide)).trans rfl)
set_option maxRecDepth 100000 in
theorem g300_1350 {d : Nat} {u : Nat × Nat} {ls st : List z_V} {w : z_W} {Q : z_P} {z : Int} {a0 a1 a2 a3 : z_V} : z_G d u 300 1350 (a0 :: a1 :: a2 :: a3 :: z_i z :: ls) st w Q ↔ z_G d u 300 1352 (a0 :: a1 :: a2 :: a3 :: z_i z :: ls) (z_i z :: st) w Q := z_gun ((zF300_21 1350 (by decide)).trans rfl)
set_option maxRecDepth 100000 in
theorem g300_1352 {d : Nat} {u : Nat × Nat} {ls st : List z_V} {w : z_W} {Q : z_P} : z_G d u 300 1352 ls st w Q ↔ z_G d u 300 1353 ls (z_i (2) :: st) w Q := z_gun ((zF300_21 1352 (by decide)).trans rfl)
set_option maxRecDepth 100000 in
theorem g300_1353 {d : Nat} {u : Nat × Nat} {ls st : List z_V} {w : z_W} {Q : z_P} {x y : Int} : z_G d u 300 1353 ls (z_i y :: z_i x :: st) w Q ↔ z_G d u 300 1354 ls (z_i (z_add x y) :: st) w Q := z_gun ((zF300_21 1353 (by decide)).trans rfl)
set_option maxRecDepth 100000 in
theorem g300_1354 {d : Nat} {u : Nat × Nat} {ls st : List z_V} {w : z_W} {Q : z_P} {p : Nat} {i : Int} : z_G d u 300 1354 ls (z_i i :: z_r p :: st) w Q ↔ ((z_k w p = 100 ∨ z_k w p = 103) ∧ 0 ≤ i ∧ i < z_len w p ∧ (z_rg (z_I w p i) → z_G d u 300 1355 ls (z_i (z_I w p i) :: st) w Q)) := z_gun ((zF300_21 1354 (by decide)).trans rfl)
set_option maxRecDepth 100000 in
theorem g300_1355 {d : Nat} {u : Nat × Nat} {ls st : List z_V} {w : z_W} {Q : z_P} {p : Nat} {x0 x1 : Int} : z_G (d + 1) u 300 1355 ls (z_i x1 :: z_i x0 :: z_r p :: st) w Q ↔ (z_k w p = 12 ∧ z_c8 st 8 = true ∧ z_G d (0, 0) 276 0 [z_r p, z_i x0, z_i x1, z_x] [] w (fun r w' => z_G (d + 1) u 300 1358 ls (r.toList ++ st) w' Q)) := z_gcaV (d := d) (m := 300) (pc := 1355) (m' := 276) (k := 3) (nL := 4) (nx := 1358) (ci := 12) (p := p) (u := u) (ls := ls) (st := st) (w := w) (Q := Q) (vs := [z_r p, z_i x0, z_i x1]) ((zF300_21 1355 (by decide)).trans rfl) rfl rfl
set_option maxRecDepth 100000 in
theorem g300_1358 {d : Nat} {u : Nat × Nat} {ls st : List z_V} {w : z_W} {Q : z_P} {x : Int} : z_G d u 300 1358 ls (z_i x :: st) w Q ↔ z_G d u 300 1359 ls st w Q := z_gun ((zF300_21 1358 (by decide)).trans rfl)
set_option maxRecDepth 100000 in
theorem g300_1358r {d : Nat} {u : Nat × Nat} {ls st : List z_V} {w : z_W} {Q : z_P} {k : Nat} : z_G d u 300 1358 ls (z_r k :: st) w Q ↔ z_G d u 300 1359 ls st w Q := z_gun ((zF300_21 1358 (by decide)).trans rfl)
set_option maxRecDepth 100000 in
theorem g300_1359 {d : Nat} {u : Nat × Nat} {ls st : List z_V} {w : z_W} {Q : z_P} : z_G d u 300 1359 ls st w Q ↔ z_G d u 300 1586 ls st w Q := z_gun ((zF300_21 1359 (by decide)).trans rfl)
set_option maxRecDepth 100000 in
theorem g300_1362 {d : Nat} {u : Nat × Nat} {ls st : List z_V} {w : z_W} {Q : z_P} {o : Option Nat} {a0 : z_V} : z_G d u 300 1362 (a0 :: z_vr o :: ls) st w Q ↔ z_G d u 300 1363 (a0 :: z_vr o :: ls) (z_vr o :: st) w Q := z_gun ((zF300_21 1362 (by decide)).trans rfl)
set_option maxRecDepth 100000 in
theorem g300_1362r {d : Nat} {u : Nat × Nat} {ls st : List z_V} {w : z_W} {Q : z_P} {k : Nat} {a0 : z_V} : z_G d u 300 1362 (a0 :: z_r k :: ls) st w Q ↔ z_G d u 300 1363 (a0 :: z_r k :: ls) (z_r k :: st) w Q := z_gun ((zF300_21 1362 (by decide)).trans rfl)
set_option maxRecDepth 100000 in
theorem g300_1363 {d : Nat} {u : Nat × Nat} {ls st : List z_V} {w : z_W} {Q : z_P} {o : Option Nat} : z_G d u 300 1363 (z_vr o :: ls) st w Q ↔ z_G d u 300 1364 (z_vr o :: ls) (z_vr o :: st) w Q := z_gun ((zF300_21 1363 (by decide)).trans rfl)
set_option maxRecDepth 100000 in
theorem g300_1363r {d : Nat} {u : Nat × Nat} {ls st : List z_V} {w : z_W} {Q : z_P} {k : Nat} : z_G d u 300 1363 (z_r k :: ls) st w Q ↔ z_G d u 300 1364 (z_r k :: ls) (z_r k :: st) w Q := z_gun ((zF300_21 1363 (by decide)).trans rfl)
set_option maxRecDepth 100000 in
theorem g300_1364 {d : Nat} {u : Nat × Nat} {ls st : List z_V} {w : z_W} {Q : z_P} {z : Int} {a0 a1 a2 a3 : z_V} : z_G d u 300 1364 (a0 :: a1 :: a2 :: a3 :: z_i z :: ls) st w Q ↔ z_G d u 300 1366 (a0 :: a1 :: a2 :: a3 :: z_i z :: ls) (z_i z :: st) w Q := z_gun ((zF300_21 1364 (by decide)).trans rfl)
set_option maxRecDepth 100000 in
theorem g300_1366 {d : Nat} {u : Nat × Nat} {ls st : List z_V} {w : z_W} {Q : z_P} : z_G d u 300 1366 ls st w Q ↔ z_G d u 300 1367 ls (z_i (1) :: st) w Q := z_gun ((zF300_21 1366 (by decide)).trans rfl)
set_option maxRecDepth 100000 in
theorem g300_1367 {d : Nat} {u : Nat × Nat} {ls st : List z_V} {w : z_W} {Q : z_P} {x y : Int} : z_G d u 300 1367 ls (z_i y :: z_i x :: st) w Q ↔ z_G d u 300 1368 ls (z_i (z_add x y) :: st) w Q := z_gun ((zF300_21 1367 (by decide)).trans rfl)
set_option maxRecDepth 100000 in
theorem g300_1368 {d : Nat} {u : Nat × Nat} {ls st : List z_V} {w : z_W} {Q : z_P} {p : Nat} {i : Int} : z_G d u 300 1368 ls (z_i i :: z_r p :: st) w Q ↔ ((z_k w p = 100 ∨ z_k w p = 103) ∧ 0 ≤ i ∧ i < z_len w p ∧ (z_rg (z_I w p i) → z_G d u 300 1369 ls (z_i (z_I w p i) :: st) w Q)) := z_gun ((zF300_21 1368 (by decide)).trans rfl)
set_option maxRecDepth 100000 in
theorem g300_1369 {d : Nat} {u : Nat × Nat} {ls st : List z_V} {w : z_W} {Q : z_P} {o : Option Nat} : z_G d u 300 1369 (z_vr o :: ls) st w Q ↔ z_G d u 300 1370 (z_vr o :: ls) (z_vr o :: st) w Q := z_gun ((zF300_21 1369 (by decide)).trans rfl)
set_option maxRecDepth 100000 in
theorem g300_1369r {d : Nat} {u : Nat × Nat} {ls st : List z_V} {w : z_W} {Q : z_P} {k : Nat} : z_G d u 300 1369 (z_r k :: ls) st w Q ↔ z_G d u 300 1370 (z_r k :: ls) (z_r k :: st) w Q := z_gun ((zF300_21 1369 (by decide)).trans rfl)
set_option maxRecDepth 100000 in
theorem g300_1370 {d : Nat} {u : Nat × Nat} {ls st : List z_V} {w : z_W} {Q : z_P} {z : Int} {a0 a1 a2 a3 : z_V} : z_G d u 300 1370 (a0 :: a1 :: a2 :: a3 :: z_i z :: ls) st w Q ↔ z_G d u 300 1372 (a0 :: a1 :: a2 :: a3 :: z_i z :: ls) (z_i z :: st) w Q := z_gun ((zF300_22 1370 (by decide)).trans rfl)
set_option maxRecDepth 100000 in
theorem g300_1372 {d : Nat} {u : Nat × Nat} {ls st : List z_V} {w : z_W} {Q : z_P} : z_G d u 300 1372 ls st w Q ↔ z_G d u 300 1373 ls (z_i (2) :: st) w Q := z_gun ((zF300_22 1372 (by decide)).trans rfl)
set_option maxRecDepth 100000 in
theorem g300_1373 {d : Nat} {u : Nat × Nat} {ls st : List z_V} {w : z_W} {Q : z_P} {x y : Int} : z_G d u 300 1373 ls (z_i y :: z_i x :: st) w Q ↔ z_G d u 300 1374 ls (z_i (z_add x y) :: st) w Q := z_gun ((zF300_22 1373 (by decide)).trans rfl)
set_option maxRecDepth 100000 in
theorem g300_1374 {d : Nat} {u : Nat × Nat} {ls st : List z_V} {w : z_W} {Q : z_P} {p : Nat} {i : Int} : z_G d u 300 1374 ls (z_i i :: z_r p :: st) w Q ↔ ((z_k w p = 100 ∨ z_k w p = 103) ∧ 0 ≤ i ∧ i < z_len w p ∧ (z_rg (z_I w p i) → z_G d u 300 1375 ls (z_i (z_I w p i) :: st) w Q)) := z_gun ((zF300_22 1374 (by decide)).trans rfl)
set_option maxRecDepth 100000 in
theorem g300_1375 {d : Nat} {u : Nat × Nat} {ls st : List z_V} {w : z_W} {Q : z_P} {p : Nat} {x0 x1 : Int} : z_G (d + 1) u 300 1375 ls (z_i x1 :: z_i x0 :: z_r p :: st) w Q ↔ (z_k w p = 11 ∧ z_c8 st 8 = true ∧ z_G d (0, 0) 156 0 [z_r p, z_i x0, z_i x1, z_x] [] w (fun r w' => z_G (d + 1) u 300 1378 ls (r.toList ++ st) w' Q)) := z_gcaV (d := d) (m := 300) (pc := 1375) (m' := 156) (k := 3) (nL := 4) (nx := 1378) (ci := 11) (p := p) (u := u) (ls := ls) (st := st) (w := w) (Q := Q) (vs := [z_r p, z_i x0, z_i x1]) ((zF300_22 1375 (by decide)).trans rfl) rfl rfl
set_option maxRecDepth 100000 in
theorem g300_1378 {d : Nat} {u : Nat × Nat} {ls st : List z_V} {w : z_W} {Q : z_P} {x : Int} : z_G d u 300 1378 ls (z_i x :: st) w Q ↔ z_G d u 300 1379 ls st w Q := z_gun ((zF300_22 1378 (by decide)).trans rfl)
set_option maxRecDepth 100000 in
theorem g300_1378r {d : Nat} {u : Nat × Nat} {ls st : List z_V} {w : z_W} {Q : z_P} {k : Nat} : z_G d u 300 1378 ls (z_r k :: st) w Q ↔ z_G d u 300 1379 ls st w Q := z_gun ((zF300_22 1378 (by decide)).trans rfl)
set_option maxRecDepth 100000 in
theorem g300_1379 {d : Nat} {u : Nat × Nat} {ls st : List z_V} {w : z_W} {Q : z_P} {o : Option Nat} {a0 a1 : z_V} : z_G d u 300 1379 (a0 :: a1 :: z_vr o :: ls) st w Q ↔ z_G d u 300 1380 (a0 :: a1 :: z_vr o :: ls) (z_vr o :: st) w Q := z_gun ((zF300_22 1379 (by decide)).trans rfl)
set_option maxRecDepth 100000 in
theorem g300_1379r {d : Nat} {u : Nat × Nat} {ls st : List z_V} {w : z_W} {Q : z_P} {k : Nat} {a0 a1 : z_V} : z_G d u 300 1379 (a0 :: a1 :: z_r k :: ls) st w Q ↔ z_G d u 300 1380 (a0 :: a1 :: z_r k :: ls) (z_r k :: st) w Q := z_gun ((zF300_22 1379 (by decide)).trans rfl)
set_option maxRecDepth 100000 in
theorem g300_1380 {d : Nat} {u : Nat × Nat} {ls st : List z_V} {w : z_W} {Q : z_P} {o : Option Nat} : z_G d u 300 1380 (z_vr o :: ls) st w Q ↔ z_G d u 300 1381 (z_vr o :: ls) (z_vr o :: st) w Q := z_gun ((zF300_22 1380 (by decide)).trans rfl)
set_option maxRecDepth 100000 in
theorem g300_1380r {d : Nat} {u : Nat × Nat} {ls st : List z_V} {w : z_W} {Q : z_P} {k : Nat} : z_G d u 300 1380 (z_r k :: ls) st w Q ↔ z_G d u 300 1381 (z_r k :: ls) (z_r k :: st) w Q := z_gun ((zF300_22 1380 (by decide)).trans rfl)
set_option maxRecDepth 100000 in
theorem g300_1381 {d : Nat} {u : Nat × Nat} {ls st : List z_V} {w : z_W} {Q : z_P} {z : Int} {a0 a1 a2 a3 : z_V} : z_G d u 300 1381 (a0 :: a1 :: a2 :: a3 :: z_i z :: ls) st w Q ↔ z_G d u 300 1383 (a0 :: a1 :: a2 :: a3 :: z_i z :: ls) (z_i z :: st) w Q := z_gun ((zF300_22 1381 (by decide)).trans rfl)
set_option maxRecDepth 100000 in
theorem g300_1383 {d : Nat} {u : Nat × Nat} {ls st : List z_V} {w : z_W} {Q : z_P} : z_G d u 300 1383 ls st w Q ↔ z_G d u 300 1384 ls (z_i (1) :: st) w Q := z_gun ((zF300_22 1383 (by decide)).trans rfl)
set_option maxRecDepth 100000 in
theorem g300_1384 {d : Nat} {u : Nat × Nat} {ls st : List z_V} {w : z_W} {Q : z_P} {x y : Int} : z_G d u 300 1384 ls (z_i y :: z_i x :: st) w Q ↔ z_G d u 300 1385 ls (z_i (z_add x y) :: st) w Q := z_gun ((zF300_22 1384 (by decide)).trans rfl)
set_option maxRecDepth 100000 in
theorem g300_1385 {d : Nat} {u : Nat × Nat} {ls st : List z_V} {w : z_W} {Q : z_P} {p : Nat} {i : Int} : z_G d u 300 1385 ls (z_i i :: z_r p :: st) w Q ↔ ((z_k w p = 100 ∨ z_k w p = 103) ∧ 0 ≤ i ∧ i < z_len w p ∧ (z_rg (z_I w p i) → z_G d u 300 1386 ls (z_i (z_I w p i) :: st) w Q)) := z_gun ((zF300_22 1385 (by decide)).trans rfl)
set_option maxRecDepth 100000 in
theorem g300_1386 {d : Nat} {u : Nat × Nat} {ls st : List z_V} {w : z_W} {Q : z_P} {o : Option Nat} : z_G d u 300 1386 (z_vr o :: ls) st w Q ↔ z_G d u 300 1387 (z_vr o :: ls) (z_vr o :: st) w Q := z_gun ((zF300_22 1386 (by decide)).trans rfl)
set_option maxRecDepth 100000 in
theorem g300_1386r {d : Nat} {u : Nat × Nat} {ls st : List z_V} {w : z_W} {Q : z_P} {k : Nat} : z_G d u 300 1386 (z_r k :: ls) st w Q ↔ z_G d u 300 1387 (z_r k :: ls) (z_r k :: st) w Q := z_gun ((zF300_22 1386 (by decide)).trans rfl)
set_option maxRecDepth 100000 in
theorem g300_1387 {d : Nat} {u : Nat × Nat} {ls st : List z_V} {w : z_W} {Q : z_P} {z : Int} {a0 a1 a2 a3 : z_V} : z_G d u 300 1387 (a0 :: a1 :: a2 :: a3 :: z_i z :: ls) st w Q ↔ z_G d u 300 1389 (a0 :: a1 :: a2 :: a3 :: z_i z :: ls) (z_i z :: st) w Q := z_gun ((zF300_22 1387 (by decide)).trans rfl)
set_option maxRecDepth 100000 in
theorem g300_1389 {d : Nat} {u : Nat × Nat} {ls st : List z_V} {w : z_W} {Q : z_P} : z_G d u 300 1389 ls st w Q ↔ z_G d u 300 1390 ls (z_i (2) :: st) w Q := z_gun ((zF300_22 1389 (by decide)).trans rfl)
set_option maxRecDepth 100000 in
theorem g300_1390 {d : Nat} {u : Nat × Nat} {ls st : List z_V} {w : z_W} {Q : z_P} {x y : Int} : z_G d u 300 1390 ls (z_i y :: z_i x :: st) w Q ↔ z_G d u 300 1391 ls (z_i (z_add x y) :: st) w Q := z_gun ((zF300_22 1390 (by decide)).trans rfl)
set_option maxRecDepth 100000 in
theorem g300_1391 {d : Nat} {u : Nat × Nat} {ls st : List z_V} {w : z_W} {Q : z_P} {p : Nat} {i : Int} : z_G d u 300 1391 ls (z_i i :: z_r p :: st) w Q ↔ ((z_k w p = 100 ∨ z_k w p = 103) ∧ 0 ≤ i ∧ i < z_len w p ∧ (z_rg (z_I w p i) → z_G d u 300 1392 ls (z_i (z_I w p i) :: st) w Q)) := z_gun ((zF300_22 1391 (by decide)).trans rfl)
set_option maxRecDepth 100000 in
theorem g300_1392 {d : Nat} {u : Nat × Nat} {ls st : List z_V} {w : z_W} {Q : z_P} {p : Nat} {x0 x1 : Int} : z_G (d + 1) u 300 1392 ls (z_i x1 :: z_i x0 :: z_r p :: st) w Q ↔ (z_k w p = 12 ∧ z_c8 st 8 = true ∧ z_G d (0, 0) 277 0 [z_r p, z_i x0, z_i x1] [] w (fun r w' => z_G (d + 1) u 300 1395 ls (r.toList ++ st) w' Q)) := z_gcaV (d := d) (m := 300) (pc := 1392) (m' := 277) (k := 3) (nL := 3) (nx := 1395) (ci := 12) (p := p) (u := u) (ls := ls) (st := st) (w := w) (Q := Q) (vs := [z_r p, z_i x0, z_i x1]) ((zF300_22 1392 (by decide)).trans rfl) rfl rfl
set_option maxRecDepth 100000 in
theorem g300_1395 {d : Nat} {u : Nat × Nat} {ls st : List z_V} {w : z_W} {Q : z_P} {x : Int} : z_G d u 300 1395 ls (z_i x :: st) w Q ↔ z_G d u 300 1396 ls st w Q := z_gun ((zF300_22 1395 (by decide)).trans rfl)
set_option maxRecDepth 100000 in
theorem g300_1395r {d : Nat} {u : Nat × Nat} {ls st : List z_V} {w : z_W} {Q : z_P} {k : Nat} : z_G d u 300 1395 ls (z_r k :: st) w Q ↔ z_G d u 300 1396 ls st w Q := z_gun ((zF300_22 1395 (by decide)).trans rfl)
set_option maxRecDepth 100000 in
theorem g300_1396 {d : Nat} {u : Nat × Nat} {ls st : List z_V} {w : z_W} {Q : z_P} : z_G d u 300 1396 ls st w Q ↔ z_G d u 300 1586 ls st w Q := z_gun ((zF300_22 1396 (by decide)).trans rfl)
set_option maxRecDepth 100000 in
theorem g300_1399 {d : Nat} {u : Nat × Nat} {ls st : List z_V} {w : z_W} {Q : z_P} {o : Option Nat} {a0 : z_V} : z_G d u 300 1399 (a0 :: z_vr o :: ls) st w Q ↔ z_G d u 300 1400 (a0 :: z_vr o :: ls) (z_vr o :: st) w Q := z_gun ((zF300_22 1399 (by decide)).trans rfl)
set_option maxRecDepth 100000 in
theorem g300_1399r {d : Nat} {u : Nat × Nat} {ls st : List z_V} {w : z_W} {Q : z_P} {k : Nat} {a0 : z_V} : z_G d u 300 1399 (a0 :: z_r k :: ls) st w Q ↔ z_G d u 300 1400 (a0 :: z_r k :: ls) (z_r k :: st) w Q := z_gun ((zF300_22 1399 (by decide)).trans rfl)
set_option maxRecDepth 100000 in
theorem g300_1400 {d : Nat} {u : Nat × Nat} {ls st : List z_V} {w : z_W} {Q : z_P} {o : Option Nat} : z_G d u 300 1400 (z_vr o :: ls) st w Q ↔ z_G d u 300 1401 (z_vr o :: ls) (z_vr o :: st) w Q := z_gun ((zF300_22 1400 (by decide)).trans rfl)
set_option maxRecDepth 100000 in
theorem g300_1400r {d : Nat} {u : Nat × Nat} {ls st : List z_V} {w : z_W} {Q : z_P} {k : Nat} : z_G d u 300 1400 (z_r k :: ls) st w Q ↔ z_G d u 300 1401 (z_r k :: ls) (z_r k :: st) w Q := z_gun ((zF300_22 1400 (by decide)).trans rfl)
set_option maxRecDepth 100000 in
theorem g300_1401 {d : Nat} {u : Nat × Nat} {ls st : List z_V} {w : z_W} {Q : z_P} {z : Int} {a0 a1 a2 a3 : z_V} : z_G d u 300 1401 (a0 :: a1 :: a2 :: a3 :: z_i z :: ls) st w Q ↔ z_G d u 300 1403 (a0 :: a1 :: a2 :: a3 :: z_i z :: ls) (z_i z :: st) w Q := z_gun ((zF300_22 1401 (by decide)).trans rfl)
set_option maxRecDepth 100000 in
theorem g300_1403 {d : Nat} {u : Nat × Nat} {ls st : List z_V} {w : z_W} {Q : z_P} : z_G d u 300 1403 ls st w Q ↔ z_G d u 300 1404 ls (z_i (1) :: st) w Q := z_gun ((zF300_22 1403 (by decide)).trans rfl)
set_option maxRecDepth 100000 in
theorem g300_1404 {d : Nat} {u : Nat × Nat} {ls st : List z_V} {w : z_W} {Q : z_P} {x y : Int} : z_G d u 300 1404 ls (z_i y :: z_i x :: st) w Q ↔ z_G d u 300 1405 ls (z_i (z_add x y) :: st) w Q := z_gun ((zF300_22 1404 (by decide)).trans rfl)
set_option maxRecDepth 100000 in
theorem g300_1405 {d : Nat} {u : Nat × Nat} {ls st : List z_V} {w : z_W} {Q : z_P} {p : Nat} {i : Int} : z_G d u 300 1405 ls (z_i i :: z_r p :: st) w Q ↔ ((z_k w p = 100 ∨ z_k w p = 103) ∧ 0 ≤ i ∧ i < z_len w p ∧ (z_rg (z_I w p i) → z_G d u 300 1406 ls (z_i (z_I w p i) :: st) w Q)) := z_gun ((zF300_22 1405 (by decide)).trans rfl)
set_option maxRecDepth 100000 in
theorem g300_1406 {d : Nat} {u : Nat × Nat} {ls st : List z_V} {w : z_W} {Q : z_P} {o : Option Nat} : z_G d u 300 1406 (z_vr o :: ls) st w Q ↔ z_G d u 300 1407 (z_vr o :: ls) (z_vr o :: st) w Q := z_gun ((zF300_22 1406 (by decide)).trans rfl)
set_option maxRecDepth 100000 in
theorem g300_1406r {d : Nat} {u : Nat × Nat} {ls st : List z_V} {w : z_W} {Q : z_P} {k : Nat} : z_G d u 300 1406 (z_r k :: ls) st w Q ↔ z_G d u 300 1407 (z_r k :: ls) (z_r k :: st) w Q := z_gun ((zF300_22 1406 (by decide)).trans rfl)
set_option maxRecDepth 100000 in
theorem g300_1407 {d : Nat} {u : Nat × Nat} {ls st : List z_V} {w : z_W} {Q : z_P} {z : Int} {a0 a1 a2 a3 : z_V} : z_G d u 300 1407 (a0 :: a1 :: a2 :: a3 :: z_i z :: ls) st w Q ↔ z_G d u 300 1409 (a0 :: a1 :: a2 :: a3 :: z_i z :: ls) (z_i z :: st) w Q := z_gun ((zF300_22 1407 (by decide)).trans rfl)
set_option maxRecDepth 100000 in
theorem g300_1409 {d : Nat} {u : Nat × Nat} {ls st : List z_V} {w : z_W} {Q : z_P} : z_G d u 300 1409 ls st w Q ↔ z_G d u 300 1410 ls (z_i (2) :: st) w Q := z_gun ((zF300_22 1409 (by decide)).trans rfl)
set_option maxRecDepth 100000 in
theorem g300_1410 {d : Nat} {u : Nat × Nat} {ls st : List z_V} {w : z_W} {Q : z_P} {x y : Int} : z_G d u 300 1410 ls (z_i y :: z_i x :: st) w Q ↔ z_G d u 300 1411 ls (z_i (z_add x y) :: st) w Q := z_gun ((zF300_22 1410 (by decide)).trans rfl)
set_option maxRecDepth 100000 in
theorem g300_1411 {d : Nat} {u : Nat × Nat} {ls st : List z_V} {w : z_W} {Q : z_P} {p : Nat} {i : Int} : z_G d u 300 1411 ls (z_i i :: z_r p :: st) w Q ↔ ((z_k w p = 100 ∨ z_k w p = 103) ∧ 0 ≤ i ∧ i < z_len w p ∧ (z_rg (z_I w p i) → z_G d u 300 1412 ls (z_i (z_I w p i) :: st) w Q)) := z_gun ((zF300_22 1411 (by decide)).trans rfl)
set_option maxRecDepth 100000 in
theorem g300_1412 {d : Nat} {u : Nat × Nat} {ls st : List z_V} {w : z_W} {Q : z_P} {o : Option Nat} : z_G d u 300 1412 (z_vr o :: ls) st w Q ↔ z_G d u 300 1413 (z_vr o :: ls) (z_vr o :: st) w Q := z_gun ((zF300_22 1412 (by decide)).trans rfl)
set_option maxRecDepth 100000 in
theorem g300_1412r {d : Nat} {u : Nat × Nat} {ls st : List z_V} {w : z_W} {Q : z_P} {k : Nat} : z_G d u 300 1412 (z_r k :: ls) st w Q ↔ z_G d u 300 1413 (z_r k :: ls) (z_r k :: st) w Q := z_gun ((zF300_22 1412 (by decide)).trans rfl)
set_option maxRecDepth 100000 in
theorem g300_1413 {d : Nat} {u : Nat × Nat} {ls st : List z_V} {w : z_W} {Q : z_P} {z : Int} {a0 a1 a2 a3 : z_V} : z_G d u 300 1413 (a0 :: a1 :: a2 :: a3 :: z_i z :: ls) st w Q ↔ z_G d u 300 1415 (a0 :: a1 :: a2 :: a3 :: z_i z :: ls) (z_i z :: st) w Q := z_gun ((zF300_22 1413 (by decide)).trans rfl)
set_option maxRecDepth 100000 in
theorem g300_1415 {d : Nat} {u : Nat × Nat} {ls st : List z_V} {w : z_W} {Q : z_P} : z_G d u 300 1415 ls st w Q ↔ z_G d u 300 1416 ls (z_i (3) :: st) w Q := z_gun ((zF300_22 1415 (by decide)).trans rfl)
