set_option maxRecDepth 100000 in
theorem g300_1416 {d : Nat} {u : Nat × Nat} {ls st : List z_V} {w : z_W} {Q : z_P} {x y : Int} : z_G d u 300 1416 ls (z_i y :: z_i x :: st) w Q ↔ z_G d u 300 1417 ls (z_i (z_add x y) :: st) w Q := z_gun ((zF300_22 1416 (by decide)).trans rfl)
set_option maxRecDepth 100000 in
theorem g300_1417 {d : Nat} {u : Nat × Nat} {ls st : List z_V} {w : z_W} {Q : z_P} {p : Nat} {i : Int} : z_G d u 300 1417 ls (z_i i :: z_r p :: st) w Q ↔ ((z_k w p = 100 ∨ z_k w p = 103) ∧ 0 ≤ i ∧ i < z_len w p ∧ (z_rg (z_I w p i) → z_G d u 300 1418 ls (z_i (z_I w p i) :: st) w Q)) := z_gun ((zF300_22 1417 (by decide)).trans rfl)
set_option maxRecDepth 100000 in
theorem g300_1418 {d : Nat} {u : Nat × Nat} {ls st : List z_V} {w : z_W} {Q : z_P} {p : Nat} {x0 x1 x2 : Int} : z_G (d + 1) u 300 1418 ls (z_i x2 :: z_i x1 :: z_i x0 :: z_r p :: st) w Q ↔ (z_k w p = 11 ∧ z_c8 st 8 = true ∧ z_G d (0, 0) 157 0 [z_r p, z_i x0, z_i x1, z_i x2, z_x] [] w (fun r w' => z_G (d + 1) u 300 1421 ls (r.toList ++ st) w' Q)) := z_gcaV (d := d) (m := 300) (pc := 1418) (m' := 157) (k := 4) (nL := 5) (nx := 1421) (ci := 11) (p := p) (u := u) (ls := ls) (st := st) (w := w) (Q := Q) (vs := [z_r p, z_i x0, z_i x1, z_i x2]) ((zF300_22 1418 (by decide)).trans rfl) rfl rfl
set_option maxRecDepth 100000 in
theorem g300_1421 {d : Nat} {u : Nat × Nat} {ls st : List z_V} {w : z_W} {Q : z_P} {x : Int} : z_G d u 300 1421 ls (z_i x :: st) w Q ↔ z_G d u 300 1422 ls st w Q := z_gun ((zF300_22 1421 (by decide)).trans rfl)
set_option maxRecDepth 100000 in
theorem g300_1421r {d : Nat} {u : Nat × Nat} {ls st : List z_V} {w : z_W} {Q : z_P} {k : Nat} : z_G d u 300 1421 ls (z_r k :: st) w Q ↔ z_G d u 300 1422 ls st w Q := z_gun ((zF300_22 1421 (by decide)).trans rfl)
set_option maxRecDepth 100000 in
theorem g300_1422 {d : Nat} {u : Nat × Nat} {ls st : List z_V} {w : z_W} {Q : z_P} {o : Option Nat} {a0 a1 : z_V} : z_G d u 300 1422 (a0 :: a1 :: z_vr o :: ls) st w Q ↔ z_G d u 300 1423 (a0 :: a1 :: z_vr o :: ls) (z_vr o :: st) w Q := z_gun ((zF300_22 1422 (by decide)).trans rfl)
set_option maxRecDepth 100000 in
theorem g300_1422r {d : Nat} {u : Nat × Nat} {ls st : List z_V} {w : z_W} {Q : z_P} {k : Nat} {a0 a1 : z_V} : z_G d u 300 1422 (a0 :: a1 :: z_r k :: ls) st w Q ↔ z_G d u 300 1423 (a0 :: a1 :: z_r k :: ls) (z_r k :: st) w Q := z_gun ((zF300_22 1422 (by decide)).trans rfl)
set_option maxRecDepth 100000 in
theorem g300_1423 {d : Nat} {u : Nat × Nat} {ls st : List z_V} {w : z_W} {Q : z_P} {o : Option Nat} : z_G d u 300 1423 (z_vr o :: ls) st w Q ↔ z_G d u 300 1424 (z_vr o :: ls) (z_vr o :: st) w Q := z_gun ((zF300_22 1423 (by decide)).trans rfl)
set_option maxRecDepth 100000 in
theorem g300_1423r {d : Nat} {u : Nat × Nat} {ls st : List z_V} {w : z_W} {Q : z_P} {k : Nat} : z_G d u 300 1423 (z_r k :: ls) st w Q ↔ z_G d u 300 1424 (z_r k :: ls) (z_r k :: st) w Q := z_gun ((zF300_22 1423 (by decide)).trans rfl)
set_option maxRecDepth 100000 in
theorem g300_1424 {d : Nat} {u : Nat × Nat} {ls st : List z_V} {w : z_W} {Q : z_P} {z : Int} {a0 a1 a2 a3 : z_V} : z_G d u 300 1424 (a0 :: a1 :: a2 :: a3 :: z_i z :: ls) st w Q ↔ z_G d u 300 1426 (a0 :: a1 :: a2 :: a3 :: z_i z :: ls) (z_i z :: st) w Q := z_gun ((zF300_23 1424 (by decide)).trans rfl)
set_option maxRecDepth 100000 in
theorem g300_1426 {d : Nat} {u : Nat × Nat} {ls st : List z_V} {w : z_W} {Q : z_P} : z_G d u 300 1426 ls st w Q ↔ z_G d u 300 1427 ls (z_i (1) :: st) w Q := z_gun ((zF300_23 1426 (by decide)).trans rfl)
set_option maxRecDepth 100000 in
theorem g300_1427 {d : Nat} {u : Nat × Nat} {ls st : List z_V} {w : z_W} {Q : z_P} {x y : Int} : z_G d u 300 1427 ls (z_i y :: z_i x :: st) w Q ↔ z_G d u 300 1428 ls (z_i (z_add x y) :: st) w Q := z_gun ((zF300_23 1427 (by decide)).trans rfl)
set_option maxRecDepth 100000 in
theorem g300_1428 {d : Nat} {u : Nat × Nat} {ls st : List z_V} {w : z_W} {Q : z_P} {p : Nat} {i : Int} : z_G d u 300 1428 ls (z_i i :: z_r p :: st) w Q ↔ ((z_k w p = 100 ∨ z_k w p = 103) ∧ 0 ≤ i ∧ i < z_len w p ∧ (z_rg (z_I w p i) → z_G d u 300 1429 ls (z_i (z_I w p i) :: st) w Q)) := z_gun ((zF300_23 1428 (by decide)).trans rfl)
set_option maxRecDepth 100000 in
theorem g300_1429 {d : Nat} {u : Nat × Nat} {ls st : List z_V} {w : z_W} {Q : z_P} {o : Option Nat} : z_G d u 300 1429 (z_vr o :: ls) st w Q ↔ z_G d u 300 1430 (z_vr o :: ls) (z_vr o :: st) w Q := z_gun ((zF300_23 1429 (by decide)).trans rfl)
set_option maxRecDepth 100000 in
theorem g300_1429r {d : Nat} {u : Nat × Nat} {ls st : List z_V} {w : z_W} {Q : z_P} {k : Nat} : z_G d u 300 1429 (z_r k :: ls) st w Q ↔ z_G d u 300 1430 (z_r k :: ls) (z_r k :: st) w Q := z_gun ((zF300_23 1429 (by decide)).trans rfl)
set_option maxRecDepth 100000 in
theorem g300_1430 {d : Nat} {u : Nat × Nat} {ls st : List z_V} {w : z_W} {Q : z_P} {z : Int} {a0 a1 a2 a3 : z_V} : z_G d u 300 1430 (a0 :: a1 :: a2 :: a3 :: z_i z :: ls) st w Q ↔ z_G d u 300 1432 (a0 :: a1 :: a2 :: a3 :: z_i z :: ls) (z_i z :: st) w Q := z_gun ((zF300_23 1430 (by decide)).trans rfl)
set_option maxRecDepth 100000 in
theorem g300_1432 {d : Nat} {u : Nat × Nat} {ls st : List z_V} {w : z_W} {Q : z_P} : z_G d u 300 1432 ls st w Q ↔ z_G d u 300 1433 ls (z_i (2) :: st) w Q := z_gun ((zF300_23 1432 (by decide)).trans rfl)
set_option maxRecDepth 100000 in
theorem g300_1433 {d : Nat} {u : Nat × Nat} {ls st : List z_V} {w : z_W} {Q : z_P} {x y : Int} : z_G d u 300 1433 ls (z_i y :: z_i x :: st) w Q ↔ z_G d u 300 1434 ls (z_i (z_add x y) :: st) w Q := z_gun ((zF300_23 1433 (by decide)).trans rfl)
set_option maxRecDepth 100000 in
theorem g300_1434 {d : Nat} {u : Nat × Nat} {ls st : List z_V} {w : z_W} {Q : z_P} {p : Nat} {i : Int} : z_G d u 300 1434 ls (z_i i :: z_r p :: st) w Q ↔ ((z_k w p = 100 ∨ z_k w p = 103) ∧ 0 ≤ i ∧ i < z_len w p ∧ (z_rg (z_I w p i) → z_G d u 300 1435 ls (z_i (z_I w p i) :: st) w Q)) := z_gun ((zF300_23 1434 (by decide)).trans rfl)
set_option maxRecDepth 100000 in
theorem g300_1435 {d : Nat} {u : Nat × Nat} {ls st : List z_V} {w : z_W} {Q : z_P} {o : Option Nat} : z_G d u 300 1435 (z_vr o :: ls) st w Q ↔ z_G d u 300 1436 (z_vr o :: ls) (z_vr o :: st) w Q := z_gun ((zF300_23 1435 (by decide)).trans rfl)
set_option maxRecDepth 100000 in
theorem g300_1435r {d : Nat} {u : Nat × Nat} {ls st : List z_V} {w : z_W} {Q : z_P} {k : Nat} : z_G d u 300 1435 (z_r k :: ls) st w Q ↔ z_G d u 300 1436 (z_r k :: ls) (z_r k :: st) w Q := z_gun ((zF300_23 1435 (by decide)).trans rfl)
set_option maxRecDepth 100000 in
theorem g300_1436 {d : Nat} {u : Nat × Nat} {ls st : List z_V} {w : z_W} {Q : z_P} {z : Int} {a0 a1 a2 a3 : z_V} : z_G d u 300 1436 (a0 :: a1 :: a2 :: a3 :: z_i z :: ls) st w Q ↔ z_G d u 300 1438 (a0 :: a1 :: a2 :: a3 :: z_i z :: ls) (z_i z :: st) w Q := z_gun ((zF300_23 1436 (by decide)).trans rfl)
set_option maxRecDepth 100000 in
theorem g300_1438 {d : Nat} {u : Nat × Nat} {ls st : List z_V} {w : z_W} {Q : z_P} : z_G d u 300 1438 ls st w Q ↔ z_G d u 300 1439 ls (z_i (3) :: st) w Q := z_gun ((zF300_23 1438 (by decide)).trans rfl)
set_option maxRecDepth 100000 in
theorem g300_1439 {d : Nat} {u : Nat × Nat} {ls st : List z_V} {w : z_W} {Q : z_P} {x y : Int} : z_G d u 300 1439 ls (z_i y :: z_i x :: st) w Q ↔ z_G d u 300 1440 ls (z_i (z_add x y) :: st) w Q := z_gun ((zF300_23 1439 (by decide)).trans rfl)
set_option maxRecDepth 100000 in
theorem g300_1440 {d : Nat} {u : Nat × Nat} {ls st : List z_V} {w : z_W} {Q : z_P} {p : Nat} {i : Int} : z_G d u 300 1440 ls (z_i i :: z_r p :: st) w Q ↔ ((z_k w p = 100 ∨ z_k w p = 103) ∧ 0 ≤ i ∧ i < z_len w p ∧ (z_rg (z_I w p i) → z_G d u 300 1441 ls (z_i (z_I w p i) :: st) w Q)) := z_gun ((zF300_23 1440 (by decide)).trans rfl)
set_option maxRecDepth 100000 in
theorem g300_1441 {d : Nat} {u : Nat × Nat} {ls st : List z_V} {w : z_W} {Q : z_P} {p : Nat} {x0 x1 x2 : Int} : z_G (d + 1) u 300 1441 ls (z_i x2 :: z_i x1 :: z_i x0 :: z_r p :: st) w Q ↔ (z_k w p = 12 ∧ z_c8 st 8 = true ∧ z_G d (0, 0) 279 0 [z_r p, z_i x0, z_i x1, z_i x2] [] w (fun r w' => z_G (d + 1) u 300 1444 ls (r.toList ++ st) w' Q)) := z_gcaV (d := d) (m := 300) (pc := 1441) (m' := 279) (k := 4) (nL := 4) (nx := 1444) (ci := 12) (p := p) (u := u) (ls := ls) (st := st) (w := w) (Q := Q) (vs := [z_r p, z_i x0, z_i x1, z_i x2]) ((zF300_23 1441 (by decide)).trans rfl) rfl rfl
set_option maxRecDepth 100000 in
theorem g300_1444 {d : Nat} {u : Nat × Nat} {ls st : List z_V} {w : z_W} {Q : z_P} {x : Int} : z_G d u 300 1444 ls (z_i x :: st) w Q ↔ z_G d u 300 1445 ls st w Q := z_gun ((zF300_23 1444 (by decide)).trans rfl)
set_option maxRecDepth 100000 in
theorem g300_1444r {d : Nat} {u : Nat × Nat} {ls st : List z_V} {w : z_W} {Q : z_P} {k : Nat} : z_G d u 300 1444 ls (z_r k :: st) w Q ↔ z_G d u 300 1445 ls st w Q := z_gun ((zF300_23 1444 (by decide)).trans rfl)
set_option maxRecDepth 100000 in
theorem g300_1445 {d : Nat} {u : Nat × Nat} {ls st : List z_V} {w : z_W} {Q : z_P} : z_G d u 300 1445 ls st w Q ↔ z_G d u 300 1586 ls st w Q := z_gun ((zF300_23 1445 (by decide)).trans rfl)
set_option maxRecDepth 100000 in
theorem g300_1448 {d : Nat} {u : Nat × Nat} {ls st : List z_V} {w : z_W} {Q : z_P} {o : Option Nat} {a0 : z_V} : z_G d u 300 1448 (a0 :: z_vr o :: ls) st w Q ↔ z_G d u 300 1449 (a0 :: z_vr o :: ls) (z_vr o :: st) w Q := z_gun ((zF300_23 1448 (by decide)).trans rfl)
set_option maxRecDepth 100000 in
theorem g300_1448r {d : Nat} {u : Nat × Nat} {ls st : List z_V} {w : z_W} {Q : z_P} {k : Nat} {a0 : z_V} : z_G d u 300 1448 (a0 :: z_r k :: ls) st w Q ↔ z_G d u 300 1449 (a0 :: z_r k :: ls) (z_r k :: st) w Q := z_gun ((zF300_23 1448 (by decide)).trans rfl)
set_option maxRecDepth 100000 in
theorem g300_1449 {d : Nat} {u : Nat × Nat} {ls st : List z_V} {w : z_W} {Q : z_P} {o : Option Nat} : z_G d u 300 1449 (z_vr o :: ls) st w Q ↔ z_G d u 300 1450 (z_vr o :: ls) (z_vr o :: st) w Q := z_gun ((zF300_23 1449 (by decide)).trans rfl)
set_option maxRecDepth 100000 in
theorem g300_1449r {d : Nat} {u : Nat × Nat} {ls st : List z_V} {w : z_W} {Q : z_P} {k : Nat} : z_G d u 300 1449 (z_r k :: ls) st w Q ↔ z_G d u 300 1450 (z_r k :: ls) (z_r k :: st) w Q := z_gun ((zF300_23 1449 (by decide)).trans rfl)
set_option maxRecDepth 100000 in
theorem g300_1450 {d : Nat} {u : Nat × Nat} {ls st : List z_V} {w : z_W} {Q : z_P} {z : Int} {a0 a1 a2 a3 : z_V} : z_G d u 300 1450 (a0 :: a1 :: a2 :: a3 :: z_i z :: ls) st w Q ↔ z_G d u 300 1452 (a0 :: a1 :: a2 :: a3 :: z_i z :: ls) (z_i z :: st) w Q := z_gun ((zF300_23 1450 (by decide)).trans rfl)
set_option maxRecDepth 100000 in
theorem g300_1452 {d : Nat} {u : Nat × Nat} {ls st : List z_V} {w : z_W} {Q : z_P} : z_G d u 300 1452 ls st w Q ↔ z_G d u 300 1453 ls (z_i (1) :: st) w Q := z_gun ((zF300_23 1452 (by decide)).trans rfl)
set_option maxRecDepth 100000 in
theorem g300_1453 {d : Nat} {u : Nat × Nat} {ls st : List z_V} {w : z_W} {Q : z_P} {x y : Int} : z_G d u 300 1453 ls (z_i y :: z_i x :: st) w Q ↔ z_G d u 300 1454 ls (z_i (z_add x y) :: st) w Q := z_gun ((zF300_23 1453 (by decide)).trans rfl)
set_option maxRecDepth 100000 in
theorem g300_1454 {d : Nat} {u : Nat × Nat} {ls st : List z_V} {w : z_W} {Q : z_P} {p : Nat} {i : Int} : z_G d u 300 1454 ls (z_i i :: z_r p :: st) w Q ↔ ((z_k w p = 100 ∨ z_k w p = 103) ∧ 0 ≤ i ∧ i < z_len w p ∧ (z_rg (z_I w p i) → z_G d u 300 1455 ls (z_i (z_I w p i) :: st) w Q)) := z_gun ((zF300_23 1454 (by decide)).trans rfl)
set_option maxRecDepth 100000 in
theorem g300_1455 {d : Nat} {u : Nat × Nat} {ls st : List z_V} {w : z_W} {Q : z_P} {o : Option Nat} : z_G d u 300 1455 (z_vr o :: ls) st w Q ↔ z_G d u 300 1456 (z_vr o :: ls) (z_vr o :: st) w Q := z_gun ((zF300_23 1455 (by decide)).trans rfl)
set_option maxRecDepth 100000 in
theorem g300_1455r {d : Nat} {u : Nat × Nat} {ls st : List z_V} {w : z_W} {Q : z_P} {k : Nat} : z_G d u 300 1455 (z_r k :: ls) st w Q ↔ z_G d u 300 1456 (z_r k :: ls) (z_r k :: st) w Q := z_gun ((zF300_23 1455 (by decide)).trans rfl)
set_option maxRecDepth 100000 in
theorem g300_1456 {d : Nat} {u : Nat × Nat} {ls st : List z_V} {w : z_W} {Q : z_P} {z : Int} {a0 a1 a2 a3 : z_V} : z_G d u 300 1456 (a0 :: a1 :: a2 :: a3 :: z_i z :: ls) st w Q ↔ z_G d u 300 1458 (a0 :: a1 :: a2 :: a3 :: z_i z :: ls) (z_i z :: st) w Q := z_gun ((zF300_23 1456 (by decide)).trans rfl)
set_option maxRecDepth 100000 in
theorem g300_1458 {d : Nat} {u : Nat × Nat} {ls st : List z_V} {w : z_W} {Q : z_P} : z_G d u 300 1458 ls st w Q ↔ z_G d u 300 1459 ls (z_i (2) :: st) w Q := z_gun ((zF300_23 1458 (by decide)).trans rfl)
set_option maxRecDepth 100000 in
theorem g300_1459 {d : Nat} {u : Nat × Nat} {ls st : List z_V} {w : z_W} {Q : z_P} {x y : Int} : z_G d u 300 1459 ls (z_i y :: z_i x :: st) w Q ↔ z_G d u 300 1460 ls (z_i (z_add x y) :: st) w Q := z_gun ((zF300_23 1459 (by decide)).trans rfl)
set_option maxRecDepth 100000 in
theorem g300_1460 {d : Nat} {u : Nat × Nat} {ls st : List z_V} {w : z_W} {Q : z_P} {p : Nat} {i : Int} : z_G d u 300 1460 ls (z_i i :: z_r p :: st) w Q ↔ ((z_k w p = 100 ∨ z_k w p = 103) ∧ 0 ≤ i ∧ i < z_len w p ∧ (z_rg (z_I w p i) → z_G d u 300 1461 ls (z_i (z_I w p i) :: st) w Q)) := z_gun ((zF300_23 1460 (by decide)).trans rfl)
set_option maxRecDepth 100000 in
theorem g300_1461 {d : Nat} {u : Nat × Nat} {ls st : List z_V} {w : z_W} {Q : z_P} {p : Nat} {x0 x1 : Int} : z_G (d + 1) u 300 1461 ls (z_i x1 :: z_i x0 :: z_r p :: st) w Q ↔ (z_k w p = 11 ∧ z_c8 st 8 = true ∧ z_G d (0, 0) 158 0 [z_r p, z_i x0, z_i x1, z_x, z_x] [] w (fun r w' => z_G (d + 1) u 300 1464 ls (r.toList ++ st) w' Q)) := z_gcaV (d := d) (m := 300) (pc := 1461) (m' := 158) (k := 3) (nL := 5) (nx := 1464) (ci := 11) (p := p) (u := u) (ls := ls) (st := st) (w := w) (Q := Q) (vs := [z_r p, z_i x0, z_i x1]) ((zF300_23 1461 (by decide)).trans rfl) rfl rfl
set_option maxRecDepth 100000 in
theorem g300_1464 {d : Nat} {u : Nat × Nat} {ls st : List z_V} {w : z_W} {Q : z_P} {x : Int} : z_G d u 300 1464 ls (z_i x :: st) w Q ↔ z_G d u 300 1465 ls st w Q := z_gun ((zF300_23 1464 (by decide)).trans rfl)
set_option maxRecDepth 100000 in
theorem g300_1464r {d : Nat} {u : Nat × Nat} {ls st : List z_V} {w : z_W} {Q : z_P} {k : Nat} : z_G d u 300 1464 ls (z_r k :: st) w Q ↔ z_G d u 300 1465 ls st w Q := z_gun ((zF300_23 1464 (by decide)).trans rfl)
set_option maxRecDepth 100000 in
theorem g300_1465 {d : Nat} {u : Nat × Nat} {ls st : List z_V} {w : z_W} {Q : z_P} {o : Option Nat} {a0 a1 : z_V} : z_G d u 300 1465 (a0 :: a1 :: z_vr o :: ls) st w Q ↔ z_G d u 300 1466 (a0 :: a1 :: z_vr o :: ls) (z_vr o :: st) w Q := z_gun ((zF300_23 1465 (by decide)).trans rfl)
set_option maxRecDepth 100000 in
theorem g300_1465r {d : Nat} {u : Nat × Nat} {ls st : List z_V} {w : z_W} {Q : z_P} {k : Nat} {a0 a1 : z_V} : z_G d u 300 1465 (a0 :: a1 :: z_r k :: ls) st w Q ↔ z_G d u 300 1466 (a0 :: a1 :: z_r k :: ls) (z_r k :: st) w Q := z_gun ((zF300_23 1465 (by decide)).trans rfl)
set_option maxRecDepth 100000 in
theorem g300_1466 {d : Nat} {u : Nat × Nat} {ls st : List z_V} {w : z_W} {Q : z_P} {o : Option Nat} : z_G d u 300 1466 (z_vr o :: ls) st w Q ↔ z_G d u 300 1467 (z_vr o :: ls) (z_vr o :: st) w Q := z_gun ((zF300_23 1466 (by decide)).trans rfl)
set_option maxRecDepth 100000 in
theorem g300_1466r {d : Nat} {u : Nat × Nat} {ls st : List z_V} {w : z_W} {Q : z_P} {k : Nat} : z_G d u 300 1466 (z_r k :: ls) st w Q ↔ z_G d u 300 1467 (z_r k :: ls) (z_r k :: st) w Q := z_gun ((zF300_23 1466 (by decide)).trans rfl)
set_option maxRecDepth 100000 in
theorem g300_1467 {d : Nat} {u : Nat × Nat} {ls st : List z_V} {w : z_W} {Q : z_P} {z : Int} {a0 a1 a2 a3 : z_V} : z_G d u 300 1467 (a0 :: a1 :: a2 :: a3 :: z_i z :: ls) st w Q ↔ z_G d u 300 1469 (a0 :: a1 :: a2 :: a3 :: z_i z :: ls) (z_i z :: st) w Q := z_gun ((zF300_23 1467 (by decide)).trans rfl)
set_option maxRecDepth 100000 in
theorem g300_1469 {d : Nat} {u : Nat × Nat} {ls st : List z_V} {w : z_W} {Q : z_P} : z_G d u 300 1469 ls st w Q ↔ z_G d u 300 1470 ls (z_i (1) :: st) w Q := z_gun ((zF300_23 1469 (by decide)).trans rfl)
set_option maxRecDepth 100000 in
theorem g300_1470 {d : Nat} {u : Nat × Nat} {ls st : List z_V} {w : z_W} {Q : z_P} {x y : Int} : z_G d u 300 1470 ls (z_i y :: z_i x :: st) w Q ↔ z_G d u 300 1471 ls (z_i (z_add x y) :: st) w Q := z_gun ((zF300_23 1470 (by decide)).trans rfl)
set_option maxRecDepth 100000 in
theorem g300_1471 {d : Nat} {u : Nat × Nat} {ls st : List z_V} {w : z_W} {Q : z_P} {p : Nat} {i : Int} : z_G d u 300 1471 ls (z_i i :: z_r p :: st) w Q ↔ ((z_k w p = 100 ∨ z_k w p = 103) ∧ 0 ≤ i ∧ i < z_len w p ∧ (z_rg (z_I w p i) → z_G d u 300 1472 ls (z_i (z_I w p i) :: st) w Q)) := z_gun ((zF300_23 1471 (by decide)).trans rfl)
set_option maxRecDepth 100000 in
theorem g300_1472 {d : Nat} {u : Nat × Nat} {ls st : List z_V} {w : z_W} {Q : z_P} {o : Option Nat} : z_G d u 300 1472 (z_vr o :: ls) st w Q ↔ z_G d u 300 1473 (z_vr o :: ls) (z_vr o :: st) w Q := z_gun ((zF300_23 1472 (by decide)).trans rfl)
set_option maxRecDepth 100000 in
theorem g300_1472r {d : Nat} {u : Nat × Nat} {ls st : List z_V} {w : z_W} {Q : z_P} {k : Nat} : z_G d u 300 1472 (z_r k :: ls) st w Q ↔ z_G d u 300 1473 (z_r k :: ls) (z_r k :: st) w Q := z_gun ((zF300_23 1472 (by decide)).trans rfl)
set_option maxRecDepth 100000 in
theorem g300_1473 {d : Nat} {u : Nat × Nat} {ls st : List z_V} {w : z_W} {Q : z_P} {z : Int} {a0 a1 a2 a3 : z_V} : z_G d u 300 1473 (a0 :: a1 :: a2 :: a3 :: z_i z :: ls) st w Q ↔ z_G d u 300 1475 (a0 :: a1 :: a2 :: a3 :: z_i z :: ls) (z_i z :: st) w Q := z_gun ((zF300_23 1473 (by decide)).trans rfl)
set_option maxRecDepth 100000 in
theorem g300_1475 {d : Nat} {u : Nat × Nat} {ls st : List z_V} {w : z_W} {Q : z_P} : z_G d u 300 1475 ls st w Q ↔ z_G d u 300 1476 ls (z_i (2) :: st) w Q := z_gun ((zF300_23 1475 (by decide)).trans rfl)
set_option maxRecDepth 100000 in
theorem g300_1476 {d : Nat} {u : Nat × Nat} {ls st : List z_V} {w : z_W} {Q : z_P} {x y : Int} : z_G d u 300 1476 ls (z_i y :: z_i x :: st) w Q ↔ z_G d u 300 1477 ls (z_i (z_add x y) :: st) w Q := z_gun ((zF300_23 1476 (by decide)).trans rfl)
set_option maxRecDepth 100000 in
theorem g300_1477 {d : Nat} {u : Nat × Nat} {ls st : List z_V} {w : z_W} {Q : z_P} {p : Nat} {i : Int} : z_G d u 300 1477 ls (z_i i :: z_r p :: st) w Q ↔ ((z_k w p = 100 ∨ z_k w p = 103) ∧ 0 ≤ i ∧ i < z_len w p ∧ (z_rg (z_I w p i) → z_G d u 300 1478 ls (z_i (z_I w p i) :: st) w Q)) := z_gun ((zF300_24 1477 (by decide)).trans rfl)
set_option maxRecDepth 100000 in
theorem g300_1478 {d : Nat} {u : Nat × Nat} {ls st : List z_V} {w : z_W} {Q : z_P} {p : Nat} {x0 x1 : Int} : z_G (d + 1) u 300 1478 ls (z_i x1 :: z_i x0 :: z_r p :: st) w Q ↔ (z_k w p = 12 ∧ z_c8 st 8 = true ∧ z_G d (0, 0) 281 0 [z_r p, z_i x0, z_i x1, z_x, z_x] [] w (fun r w' => z_G (d + 1) u 300 1481 ls (r.toList ++ st) w' Q)) := z_gcaV (d := d) (m := 300) (pc := 1478) (m' := 281) (k := 3) (nL := 5) (nx := 1481) (ci := 12) (p := p) (u := u) (ls := ls) (st := st) (w := w) (Q := Q) (vs := [z_r p, z_i x0, z_i x1]) ((zF300_24 1478 (by decide)).trans rfl) rfl rfl
set_option maxRecDepth 100000 in
theorem g300_1481 {d : Nat} {u : Nat × Nat} {ls st : List z_V} {w : z_W} {Q : z_P} {x : Int} : z_G d u 300 1481 ls (z_i x :: st) w Q ↔ z_G d u 300 1482 ls st w Q := z_gun ((zF300_24 1481 (by decide)).trans rfl)
set_option maxRecDepth 100000 in
theorem g300_1481r {d : Nat} {u : Nat × Nat} {ls st : List z_V} {w : z_W} {Q : z_P} {k : Nat} : z_G d u 300 1481 ls (z_r k :: st) w Q ↔ z_G d u 300 1482 ls st w Q := z_gun ((zF300_24 1481 (by decide)).trans rfl)
set_option maxRecDepth 100000 in
theorem g300_1482 {d : Nat} {u : Nat × Nat} {ls st : List z_V} {w : z_W} {Q : z_P} : z_G d u 300 1482 ls st w Q ↔ z_G d u 300 1586 ls st w Q := z_gun ((zF300_24 1482 (by decide)).trans rfl)
set_option maxRecDepth 100000 in
theorem g300_1485 {d : Nat} {u : Nat × Nat} {ls st : List z_V} {w : z_W} {Q : z_P} {o : Option Nat} {a0 : z_V} : z_G d u 300 1485 (a0 :: z_vr o :: ls) st w Q ↔ z_G d u 300 1486 (a0 :: z_vr o :: ls) (z_vr o :: st) w Q := z_gun ((zF300_24 1485 (by decide)).trans rfl)
set_option maxRecDepth 100000 in
theorem g300_1485r {d : Nat} {u : Nat × Nat} {ls st : List z_V} {w : z_W} {Q : z_P} {k : Nat} {a0 : z_V} : z_G d u 300 1485 (a0 :: z_r k :: ls) st w Q ↔ z_G d u 300 1486 (a0 :: z_r k :: ls) (z_r k :: st) w Q := z_gun ((zF300_24 1485 (by decide)).trans rfl)
set_option maxRecDepth 100000 in
theorem g300_1486 {d : Nat} {u : Nat × Nat} {ls st : List z_V} {w : z_W} {Q : z_P} {o : Option Nat} : z_G d u 300 1486 (z_vr o :: ls) st w Q ↔ z_G d u 300 1487 (z_vr o :: ls) (z_vr o :: st) w Q := z_gun ((zF300_24 1486 (by decide)).trans rfl)
set_option maxRecDepth 100000 in
theorem g300_1486r {d : Nat} {u : Nat × Nat} {ls st : List z_V} {w : z_W} {Q : z_P} {k : Nat} : z_G d u 300 1486 (z_r k :: ls) st w Q ↔ z_G d u 300 1487 (z_r k :: ls) (z_r k :: st) w Q := z_gun ((zF300_24 1486 (by decide)).trans rfl)
set_option maxRecDepth 100000 in
theorem g300_1487 {d : Nat} {u : Nat × Nat} {ls st : List z_V} {w : z_W} {Q : z_P} {z : Int} {a0 a1 a2 a3 : z_V} : z_G d u 300 1487 (a0 :: a1 :: a2 :: a3 :: z_i z :: ls) st w Q ↔ z_G d u 300 1489 (a0 :: a1 :: a2 :: a3 :: z_i z :: ls) (z_i z :: st) w Q := z_gun ((zF300_24 1487 (by decide)).trans rfl)
set_option maxRecDepth 100000 in
theorem g300_1489 {d : Nat} {u : Nat × Nat} {ls st : List z_V} {w : z_W} {Q : z_P} : z_G d u 300 1489 ls st w Q ↔ z_G d u 300 1490 ls (z_i (1) :: st) w Q := z_gun ((zF300_24 1489 (by decide)).trans rfl)
set_option maxRecDepth 100000 in
theorem g300_1490 {d : Nat} {u : Nat × Nat} {ls st : List z_V} {w : z_W} {Q : z_P} {x y : Int} : z_G d u 300 1490 ls (z_i y :: z_i x :: st) w Q ↔ z_G d u 300 1491 ls (z_i (z_add x y) :: st) w Q := z_gun ((zF300_24 1490 (by decide)).trans rfl)
set_option maxRecDepth 100000 in
theorem g300_1491 {d : Nat} {u : Nat × Nat} {ls st : List z_V} {w : z_W} {Q : z_P} {p : Nat} {i : Int} : z_G d u 300 1491 ls (z_i i :: z_r p :: st) w Q ↔ ((z_k w p = 100 ∨ z_k w p = 103) ∧ 0 ≤ i ∧ i < z_len w p ∧ (z_rg (z_I w p i) → z_G d u 300 1492 ls (z_i (z_I w p i) :: st) w Q)) := z_gun ((zF300_24 1491 (by decide)).trans rfl)
set_option maxRecDepth 100000 in
theorem g300_1492 {d : Nat} {u : Nat × Nat} {ls st : List z_V} {w : z_W} {Q : z_P} {p : Nat} {x0 : Int} : z_G (d + 1) u 300 1492 ls (z_i x0 :: z_r p :: st) w Q ↔ (z_k w p = 11 ∧ z_c8 st 8 = true ∧ z_G d (0, 0) 159 0 [z_r p, z_i x0, z_x, z_x, z_x] [] w (fun r w' => z_G (d + 1) u 300 1495 ls (r.toList ++ st) w' Q)) := z_gcaV (d := d) (m := 300) (pc := 1492) (m' := 159) (k := 2) (nL := 5) (nx := 1495) (ci := 11) (p := p) (u := u) (ls := ls) (st := st) (w := w) (Q := Q) (vs := [z_r p, z_i x0]) ((zF300_24 1492 (by decide)).trans rfl) rfl rfl
set_option maxRecDepth 100000 in
theorem g300_1495 {d : Nat} {u : Nat × Nat} {ls st : List z_V} {w : z_W} {Q : z_P} {x : Int} : z_G d u 300 1495 ls (z_i x :: st) w Q ↔ z_G d u 300 1496 ls st w Q := z_gun ((zF300_24 1495 (by decide)).trans rfl)
set_option maxRecDepth 100000 in
theorem g300_1495r {d : Nat} {u : Nat × Nat} {ls st : List z_V} {w : z_W} {Q : z_P} {k : Nat} : z_G d u 300 1495 ls (z_r k :: st) w Q ↔ z_G d u 300 1496 ls st w Q := z_gun ((zF300_24 1495 (by decide)).trans rfl)
set_option maxRecDepth 100000 in
theorem g300_1496 {d : Nat} {u : Nat × Nat} {ls st : List z_V} {w : z_W} {Q : z_P} {o : Option Nat} {a0 a1 : z_V} : z_G d u 300 1496 (a0 :: a1 :: z_vr o :: ls) st w Q ↔ z_G d u 300 1497 (a0 :: a1 :: z_vr o :: ls) (z_vr o :: st) w Q := z_gun ((zF300_24 1496 (by decide)).trans rfl)
set_option maxRecDepth 100000 in
theorem g300_1496r {d : Nat} {u : Nat × Nat} {ls st : List z_V} {w : z_W} {Q : z_P} {k : Nat} {a0 a1 : z_V} : z_G d u 300 1496 (a0 :: a1 :: z_r k :: ls) st w Q ↔ z_G d u 300 1497 (a0 :: a1 :: z_r k :: ls) (z_r k :: st) w Q := z_gun ((zF300_24 1496 (by decide)).trans rfl)
set_option maxRecDepth 100000 in
theorem g300_1497 {d : Nat} {u : Nat × Nat} {ls st : List z_V} {w : z_W} {Q : z_P} {o : Option Nat} : z_G d u 300 1497 (z_vr o :: ls) st w Q ↔ z_G d u 300 1498 (z_vr o :: ls) (z_vr o :: st) w Q := z_gun ((zF300_24 1497 (by decide)).trans rfl)
set_option maxRecDepth 100000 in
theorem g300_1497r {d : Nat} {u : Nat × Nat} {ls st : List z_V} {w : z_W} {Q : z_P} {k : Nat} : z_G d u 300 1497 (z_r k :: ls) st w Q ↔ z_G d u 300 1498 (z_r k :: ls) (z_r k :: st) w Q := z_gun ((zF300_24 1497 (by decide)).trans rfl)
set_option maxRecDepth 100000 in
theorem g300_1498 {d : Nat} {u : Nat × Nat} {ls st : List z_V} {w : z_W} {Q : z_P} {z : Int} {a0 a1 a2 a3 : z_V} : z_G d u 300 1498 (a0 :: a1 :: a2 :: a3 :: z_i z :: ls) st w Q ↔ z_G d u 300 1500 (a0 :: a1 :: a2 :: a3 :: z_i z :: ls) (z_i z :: st) w Q := z_gun ((zF300_24 1498 (by decide)).trans rfl)
set_option maxRecDepth 100000 in
theorem g300_1500 {d : Nat} {u : Nat × Nat} {ls st : List z_V} {w : z_W} {Q : z_P} : z_G d u 300 1500 ls st w Q ↔ z_G d u 300 1501 ls (z_i (1) :: st) w Q := z_gun ((zF300_24 1500 (by decide)).trans rfl)
set_option maxRecDepth 100000 in
theorem g300_1501 {d : Nat} {u : Nat × Nat} {ls st : List z_V} {w : z_W} {Q : z_P} {x y : Int} : z_G d u 300 1501 ls (z_i y :: z_i x :: st) w Q ↔ z_G d u 300 1502 ls (z_i (z_add x y) :: st) w Q := z_gun ((zF300_24 1501 (by decide)).trans rfl)
set_option maxRecDepth 100000 in
theorem g300_1502 {d : Nat} {u : Nat × Nat} {ls st : List z_V} {w : z_W} {Q : z_P} {p : Nat} {i : Int} : z_G d u 300 1502 ls (z_i i :: z_r p :: st) w Q ↔ ((z_k w p = 100 ∨ z_k w p = 103) ∧ 0 ≤ i ∧ i < z_len w p ∧ (z_rg (z_I w p i) → z_G d u 300 1503 ls (z_i (z_I w p i) :: st) w Q)) := z_gun ((zF300_24 1502 (by decide)).trans rfl)
set_option maxRecDepth 100000 in
theorem g300_1503 {d : Nat} {u : Nat × Nat} {ls st : List z_V} {w : z_W} {Q : z_P} {p : Nat} {x0 : Int} : z_G (d + 1) u 300 1503 ls (z_i x0 :: z_r p :: st) w Q ↔ (z_k w p = 12 ∧ z_c8 st 8 = true ∧ z_G d (0, 0) 282 0 [z_r p, z_i x0] [] w (fun r w' => z_G (d + 1) u 300 1506 ls (r.toList ++ st) w' Q)) := z_gcaV (d := d) (m := 300) (pc := 1503) (m' := 282) (k := 2) (nL := 2) (nx := 1506) (ci := 12) (p := p) (u := u) (ls := ls) (st := st) (w := w) (Q := Q) (vs := [z_r p, z_i x0]) ((zF300_24 1503 (by decide)).trans rfl) rfl rfl
set_option maxRecDepth 100000 in
theorem g300_1506 {d : Nat} {u : Nat × Nat} {ls st : List z_V} {w : z_W} {Q : z_P} {x : Int} : z_G d u 300 1506 ls (z_i x :: st) w Q ↔ z_G d u 300 1507 ls st w Q := z_gun ((zF300_24 1506 (by decide)).trans rfl)
set_option maxRecDepth 100000 in
theorem g300_1506r {d : Nat} {u : Nat × Nat} {ls st : List z_V} {w : z_W} {Q : z_P} {k : Nat} : z_G d u 300 1506 ls (z_r k :: st) w Q ↔ z_G d u 300 1507 ls st w Q := z_gun ((zF300_24 1506 (by decide)).trans rfl)
set_option maxRecDepth 100000 in
theorem g300_1507 {d : Nat} {u : Nat × Nat} {ls st : List z_V} {w : z_W} {Q : z_P} : z_G d u 300 1507 ls st w Q ↔ z_G d u 300 1586 ls st w Q := z_gun ((zF300_24 1507 (by decide)).trans rfl)
set_option maxRecDepth 100000 in
theorem g300_1510 {d : Nat} {u : Nat × Nat} {ls st : List z_V} {w : z_W} {Q : z_P} {o : Option Nat} {a0 : z_V} : z_G d u 300 1510 (a0 :: z_vr o :: ls) st w Q ↔ z_G d u 300 1511 (a0 :: z_vr o :: ls) (z_vr o :: st) w Q := z_gun ((zF300_24 1510 (by decide)).trans rfl)
set_option maxRecDepth 100000 in
theorem g300_1510r {d : Nat} {u : Nat × Nat} {ls st : List z_V} {w : z_W} {Q : z_P} {k : Nat} {a0 : z_V} : z_G d u 300 1510 (a0 :: z_r k :: ls) st w Q ↔ z_G d u 300 1511 (a0 :: z_r k :: ls) (z_r k :: st) w Q := z_gun ((zF300_24 1510 (by decide)).trans rfl)
set_option maxRecDepth 100000 in
theorem g300_1511 {d : Nat} {u : Nat × Nat} {ls st : List z_V} {w : z_W} {Q : z_P} {o : Option Nat} : z_G d u 300 1511 (z_vr o :: ls) st w Q ↔ z_G d u 300 1512 (z_vr o :: ls) (z_vr o :: st) w Q := z_gun ((zF300_24 1511 (by decide)).trans rfl)
set_option maxRecDepth 100000 in
theorem g300_1511r {d : Nat} {u : Nat × Nat} {ls st : List z_V} {w : z_W} {Q : z_P} {k : Nat} : z_G d u 300 1511 (z_r k :: ls) st w Q ↔ z_G d u 300 1512 (z_r k :: ls) (z_r k :: st) w Q := z_gun ((zF300_24 1511 (by decide)).trans rfl)
set_option maxRecDepth 100000 in
theorem g300_1512 {d : Nat} {u : Nat × Nat} {ls st : List z_V} {w : z_W} {Q : z_P} {z : Int} {a0 a1 a2 a3 : z_V} : z_G d u 300 1512 (a0 :: a1 :: a2 :: a3 :: z_i z :: ls) st w Q ↔ z_G d u 300 1514 (a0 :: a1 :: a2 :: a3 :: z_i z :: ls) (z_i z :: st) w Q := z_gun ((zF300_24 1512 (by decide)).trans rfl)
set_option maxRecDepth 100000 in
theorem g300_1514 {d : Nat} {u : Nat × Nat} {ls st : List z_V} {w : z_W} {Q : z_P} : z_G d u 300 1514 ls st w Q ↔ z_G d u 300 1515 ls (z_i (1) :: st) w Q := z_gun ((zF300_24 1514 (by decide)).trans rfl)
set_option maxRecDepth 100000 in
theorem g300_1515 {d : Nat} {u : Nat × Nat} {ls st : List z_V} {w : z_W} {Q : z_P} {x y : Int} : z_G d u 300 1515 ls (z_i y :: z_i x :: st) w Q ↔ z_G d u 300 1516 ls (z_i (z_add x y) :: st) w Q := z_gun ((zF300_24 1515 (by decide)).trans rfl)
set_option maxRecDepth 100000 in
theorem g300_1516 {d : Nat} {u : Nat × Nat} {ls st : List z_V} {w : z_W} {Q : z_P} {p : Nat} {i : Int} : z_G d u 300 1516 ls (z_i i :: z_r p :: st) w Q ↔ ((z_k w p = 100 ∨ z_k w p = 103) ∧ 0 ≤ i ∧ i < z_len w p ∧ (z_rg (z_I w p i) → z_G d u 300 1517 ls (z_i (z_I w p i) :: st) w Q)) := z_gun ((zF300_24 1516 (by decide)).trans rfl)
set_option maxRecDepth 100000 in
theorem g300_1517 {d : Nat} {u : Nat × Nat} {ls st : List z_V} {w : z_W} {Q : z_P} {p : Nat} {x0 : Int} : z_G (d + 1) u 300 1517 ls (z_i x0 :: z_r p :: st) w Q ↔ (z_k w p = 11 ∧ z_c8 st 8 = true ∧ z_G d (0, 0) 162 0 [z_r p, z_i x0] [] w (fun r w' => z_G (d + 1) u 300 1520 ls (r.toList ++ st) w' Q)) := z_gcaV (d := d) (m := 300) (pc := 1517) (m' := 162) (k := 2) (nL := 2) (nx := 1520) (ci := 11) (p := p) (u := u) (ls := ls) (st := st) (w := w) (Q := Q) (vs := [z_r p, z_i x0]) ((zF300_24 1517 (by decide)).trans rfl) rfl rfl
set_option maxRecDepth 100000 in
theorem g300_1520 {d : Nat} {u : Nat × Nat} {ls st : List z_V} {w : z_W} {Q : z_P} {x : Int} : z_G d u 300 1520 ls (z_i x :: st) w Q ↔ z_G d u 300 1521 ls st w Q := z_gun ((zF300_24 1520 (by decide)).trans rfl)
set_option maxRecDepth 100000 in
theorem g300_1520r {d : Nat} {u : Nat × Nat} {ls st : List z_V} {w : z_W} {Q : z_P} {k : Nat} : z_G d u 300 1520 ls (z_r k :: st) w Q ↔ z_G d u 300 1521 ls st w Q := z_gun ((zF300_24 1520 (by decide)).trans rfl)
set_option maxRecDepth 100000 in
theorem g300_1521 {d : Nat} {u : Nat × Nat} {ls st : List z_V} {w : z_W} {Q : z_P} {o : Option Nat} {a0 a1 : z_V} : z_G d u 300 1521 (a0 :: a1 :: z_vr o :: ls) st w Q ↔ z_G d u 300 1522 (a0 :: a1 :: z_vr o :: ls) (z_vr o :: st) w Q := z_gun ((zF300_24 1521 (by decide)).trans rfl)
set_option maxRecDepth 100000 in
theorem g300_1521r {d : Nat} {u : Nat × Nat} {ls st : List z_V} {w : z_W} {Q : z_P} {k : Nat} {a0 a1 : z_V} : z_G d u 300 1521 (a0 :: a1 :: z_r k :: ls) st w Q ↔ z_G d u 300 1522 (a0 :: a1 :: z_r k :: ls) (z_r k :: st) w Q := z_gun ((zF300_24 1521 (by decide)).trans rfl)
set_option maxRecDepth 100000 in
theorem g300_1522 {d : Nat} {u : Nat × Nat} {ls st : List z_V} {w : z_W} {Q : z_P} {o : Option Nat} : z_G d u 300 1522 (z_vr o :: ls) st w Q ↔ z_G d u 300 1523 (z_vr o :: ls) (z_vr o :: st) w Q := z_gun ((zF300_24 1522 (by decide)).trans rfl)
set_option maxRecDepth 100000 in
theorem g300_1522r {d : Nat} {u : Nat × Nat} {ls st : List z_V} {w : z_W} {Q : z_P} {k : Nat} : z_G d u 300 1522 (z_r k :: ls) st w Q ↔ z_G d u 300 1523 (z_r k :: ls) (z_r k :: st) w Q := z_gun ((zF300_24 1522 (by decide)).trans rfl)
set_option maxRecDepth 100000 in
theorem g300_1523 {d : Nat} {u : Nat × Nat} {ls st : List z_V} {w : z_W} {Q : z_P} {z : Int} {a0 a1 a2 a3 : z_V} : z_G d u 300 1523 (a0 :: a1 :: a2 :: a3 :: z_i z :: ls) st w Q ↔ z_G d u 300 1525 (a0 :: a1 :: a2 :: a3 :: z_i z :: ls) (z_i z :: st) w Q := z_gun ((zF300_24 1523 (by decide)).trans rfl)
set_option maxRecDepth 100000 in
theorem g300_1525 {d : Nat} {u : Nat × Nat} {ls st : List z_V} {w : z_W} {Q : z_P} : z_G d u 300 1525 ls st w Q ↔ z_G d u 300 1526 ls (z_i (1) :: st) w Q := z_gun ((zF300_24 1525 (by decide)).trans rfl)
set_option maxRecDepth 100000 in
theorem g300_1526 {d : Nat} {u : Nat × Nat} {ls st : List z_V} {w : z_W} {Q : z_P} {x y : Int} : z_G d u 300 1526 ls (z_i y :: z_i x :: st) w Q ↔ z_G d u 300 1527 ls (z_i (z_add x y) :: st) w Q := z_gun ((zF300_24 1526 (by decide)).trans rfl)
set_option maxRecDepth 100000 in
theorem g300_1527 {d : Nat} {u : Nat × Nat} {ls st : List z_V} {w : z_W} {Q : z_P} {p : Nat} {i : Int} : z_G d u 300 1527 ls (z_i i :: z_r p :: st) w Q ↔ ((z_k w p = 100 ∨ z_k w p = 103) ∧ 0 ≤ i ∧ i < z_len w p ∧ (z_rg (z_I w p i) → z_G d u 300 1528 ls (z_i (z_I w p i) :: st) w Q)) := z_gun ((zF300_24 1527 (by decide)).trans rfl)
set_option maxRecDepth 100000 in
theorem g300_1528 {d : Nat} {u : Nat × Nat} {ls st : List z_V} {w : z_W} {Q : z_P} {p : Nat} {x0 : Int} : z_G (d + 1) u 300 1528 ls (z_i x0 :: z_r p :: st) w Q ↔ (z_k w p = 12 ∧ z_c8 st 8 = true ∧ z_G d (0, 0) 290 0 [z_r p, z_i x0] [] w (fun r w' => z_G (d + 1) u 300 1531 ls (r.toList ++ st) w' Q)) := z_gcaV (d := d) (m := 300) (pc := 1528) (m' := 290) (k := 2) (nL := 2) (nx := 1531) (ci := 12) (p := p) (u := u) (ls := ls) (st := st) (w := w) (Q := Q) (vs := [z_r p, z_i x0]) ((zF300_24 1528 (by decide)).trans rfl) rfl rfl
set_option maxRecDepth 100000 in
theorem g300_1531 {d : Nat} {u : Nat × Nat} {ls st : List z_V} {w : z_W} {Q : z_P} {x : Int} : z_G d u 300 1531 ls (z_i x :: st) w Q ↔ z_G d u 300 1532 ls st w Q := z_gun ((zF300_24 1531 (by decide)).trans rfl)
set_option maxRecDepth 100000 in
theorem g300_1531r {d : Nat} {u : Nat × Nat} {ls st : List z_V} {w : z_W} {Q : z_P} {k : Nat} : z_G d u 300 1531 ls (z_r k :: st) w Q ↔ z_G d u 300 1532 ls st w Q := z_gun ((zF300_24 1531 (by decide)).trans rfl)
set_option maxRecDepth 100000 in
theorem g300_1532 {d : Nat} {u : Nat × Nat} {ls st : List z_V} {w : z_W} {Q : z_P} : z_G d u 300 1532 ls st w Q ↔ z_G d u 300 1586 ls st w Q := z_gun ((zF300_24 1532 (by decide)).trans rfl)
set_option maxRecDepth 100000 in
theorem g300_1535 {d : Nat} {u : Nat × Nat} {ls st : List z_V} {w : z_W} {Q : z_P} {o : Option Nat} {a0 : z_V} : z_G d u 300 1535 (a0 :: z_vr o :: ls) st w Q ↔ z_G d u 300 1536 (a0 :: z_vr o :: ls) (z_vr o :: st) w Q := z_gun ((zF300_24 1535 (by decide)).trans rfl)
set_option maxRecDepth 100000 in
theorem g300_1535r {d : Nat} {u : Nat × Nat} {ls st : List z_V} {w : z_W} {Q : z_P} {k : Nat} {a0 : z_V} : z_G d u 300 1535 (a0 :: z_r k :: ls) st w Q ↔ z_G d u 300 1536 (a0 :: z_r k :: ls) (z_r k :: st) w Q := z_gun ((zF300_24 1535 (by decide)).trans rfl)
set_option maxRecDepth 100000 in
theorem g300_1536 {d : Nat} {u : Nat × Nat} {ls st : List z_V} {w : z_W} {Q : z_P} {p : Nat} : z_G (d + 1) u 300 1536 ls (z_r p :: st) w Q ↔ (z_k w p = 11 ∧ z_c8 st 8 = true ∧ z_G d (0, 0) 163 0 [z_r p] [] w (fun r w' => z_G (d + 1) u 300 1539 ls (r.toList ++ st) w' Q)) := z_gcaV (d := d) (m := 300) (pc := 1536) (m' := 163) (k := 1) (nL := 1) (nx := 1539) (ci := 11) (p := p) (u := u) (ls := ls) (st := st) (w := w) (Q := Q) (vs := [z_r p]) ((zF300_24 1536 (by decide)).trans rfl) rfl rfl
set_option maxRecDepth 100000 in
theorem g300_1539 {d : Nat} {u : Nat × Nat} {ls st : List z_V} {w : z_W} {Q : z_P} {x : Int} : z_G d u 300 1539 ls (z_i x :: st) w Q ↔ z_G d u 300 1540 ls st w Q := z_gun ((zF300_25 1539 (by decide)).trans rfl)
set_option maxRecDepth 100000 in
theorem g300_1539r {d : Nat} {u : Nat × Nat} {ls st : List z_V} {w : z_W} {Q : z_P} {k : Nat} : z_G d u 300 1539 ls (z_r k :: st) w Q ↔ z_G d u 300 1540 ls st w Q := z_gun ((zF300_25 1539 (by decide)).trans rfl)
set_option maxRecDepth 100000 in
theorem g300_1540 {d : Nat} {u : Nat × Nat} {ls st : List z_V} {w : z_W} {Q : z_P} {o : Option Nat} {a0 a1 : z_V} : z_G d u 300 1540 (a0 :: a1 :: z_vr o :: ls) st w Q ↔ z_G d u 300 1541 (a0 :: a1 :: z_vr o :: ls) (z_vr o :: st) w Q := z_gun ((zF300_25 1540 (by decide)).trans rfl)
set_option maxRecDepth 100000 in
theorem g300_1540r {d : Nat} {u : Nat × Nat} {ls st : List z_V} {w : z_W} {Q : z_P} {k : Nat} {a0 a1 : z_V} : z_G d u 300 1540 (a0 :: a1 :: z_r k :: ls) st w Q ↔ z_G d u 300 1541 (a0 :: a1 :: z_r k :: ls) (z_r k :: st) w Q := z_gun ((zF300_25 1540 (by decide)).trans rfl)
set_option maxRecDepth 100000 in
theorem g300_1541 {d : Nat} {u : Nat × Nat} {ls st : List z_V} {w : z_W} {Q : z_P} {p : Nat} : z_G (d + 1) u 300 1541 ls (z_r p :: st) w Q ↔ (z_k w p = 12 ∧ z_c8 st 8 = true ∧ z_G d (0, 0) 291 0 [z_r p, z_x] [] w (fun r w' => z_G (d + 1) u 300 1544 ls (r.toList ++ st) w' Q)) := z_gcaV (d := d) (m := 300) (pc := 1541) (m' := 291) (k := 1) (nL := 2) (nx := 1544) (ci := 12) (p := p) (u := u) (ls := ls) (st := st) (w := w) (Q := Q) (vs := [z_r p]) ((zF300_25 1541 (by decide)).trans rfl) rfl rfl
set_option maxRecDepth 100000 in
theorem g300_1544 {d : Nat} {u : Nat × Nat} {ls st : List z_V} {w : z_W} {Q : z_P} {x : Int} : z_G d u 300 1544 ls (z_i x :: st) w Q ↔ z_G d u 300 1545 ls st w Q := z_gun ((zF300_25 1544 (by decide)).trans rfl)
set_option maxRecDepth 100000 in
theorem g300_1544r {d : Nat} {u : Nat × Nat} {ls st : List z_V} {w : z_W} {Q : z_P} {k : Nat} : z_G d u 300 1544 ls (z_r k :: st) w Q ↔ z_G d u 300 1545 ls st w Q := z_gun ((zF300_25 1544 (by decide)).trans rfl)
set_option maxRecDepth 100000 in
theorem g300_1545 {d : Nat} {u : Nat × Nat} {ls st : List z_V} {w : z_W} {Q : z_P} : z_G d u 300 1545 ls st w Q ↔ z_G d u 300 1586 ls st w Q := z_gun ((zF300_25 1545 (by decide)).trans rfl)
set_option maxRecDepth 100000 in
theorem g300_1548 {d : Nat} {u : Nat × Nat} {ls st : List z_V} {w : z_W} {Q : z_P} {o : Option Nat} {a0 : z_V} : z_G d u 300 1548 (a0 :: z_vr o :: ls) st w Q ↔ z_G d u 300 1549 (a0 :: z_vr o :: ls) (z_vr o :: st) w Q := z_gun ((zF300_25 1548 (by decide)).trans rfl)
set_option maxRecDepth 100000 in
theorem g300_1548r {d : Nat} {u : Nat × Nat} {ls st : List z_V} {w : z_W} {Q : z_P} {k : Nat} {a0 : z_V} : z_G d u 300 1548 (a0 :: z_r k :: ls) st w Q ↔ z_G d u 300 1549 (a0 :: z_r k :: ls) (z_r k :: st) w Q := z_gun ((zF300_25 1548 (by decide)).trans rfl)
set_option maxRecDepth 100000 in
theorem g300_1549 {d : Nat} {u : Nat × Nat} {ls st : List z_V} {w : z_W} {Q : z_P} {p : Nat} : z_G (d + 1) u 300 1549 ls (z_r p :: st) w Q ↔ (z_k w p = 11 ∧ z_c8 st 8 = true ∧ z_G d (0, 0) 164 0 [z_r p] [] w (fun r w' => z_G (d + 1) u 300 1552 ls (r.toList ++ st) w' Q)) := z_gcaV (d := d) (m := 300) (pc := 1549) (m' := 164) (k := 1) (nL := 1) (nx := 1552) (ci := 11) (p := p) (u := u) (ls := ls) (st := st) (w := w) (Q := Q) (vs := [z_r p]) ((zF300_25 1549 (by decide)).trans rfl) rfl rfl
set_option maxRecDepth 100000 in
theorem g300_1552 {d : Nat} {u : Nat × Nat} {ls st : List z_V} {w : z_W} {Q : z_P} {x : Int} : z_G d u 300 1552 ls (z_i x :: st) w Q ↔ z_G d u 300 1553 ls st w Q := z_gun ((zF300_25 1552 (by decide)).trans rfl)
set_option maxRecDepth 100000 in
theorem g300_1552r {d : Nat} {u : Nat × Nat} {ls st : List z_V} {w : z_W} {Q : z_P} {k : Nat} : z_G d u 300 1552 ls (z_r k :: st) w Q ↔ z_G d u 300 1553 ls st w Q := z_gun ((zF300_25 1552 (by decide)).trans rfl)
set_option maxRecDepth 100000 in
theorem g300_1553 {d : Nat} {u : Nat × Nat} {ls st : List z_V} {w : z_W} {Q : z_P} {o : Option Nat} {a0 a1 : z_V} : z_G d u 300 1553 (a0 :: a1 :: z_vr o :: ls) st w Q ↔ z_G d u 300 1554 (a0 :: a1 :: z_vr o :: ls) (z_vr o :: st) w Q := z_gun ((zF300_25 1553 (by decide)).trans rfl)
set_option maxRecDepth 100000 in
theorem g300_1553r {d : Nat} {u : Nat × Nat} {ls st : List z_V} {w : z_W} {Q : z_P} {k : Nat} {a0 a1 : z_V} : z_G d u 300 1553 (a0 :: a1 :: z_r k :: ls) st w Q ↔ z_G d u 300 1554 (a0 :: a1 :: z_r k :: ls) (z_r k :: st) w Q := z_gun ((zF300_25 1553 (by decide)).trans rfl)
set_option maxRecDepth 100000 in
theorem g300_1554 {d : Nat} {u : Nat × Nat} {ls st : List z_V} {w : z_W} {Q : z_P} {p : Nat} : z_G (d + 1) u 300 1554 ls (z_r p :: st) w Q ↔ (z_k w p = 12 ∧ z_c8 st 8 = true ∧ z_G d (0, 0) 292 0 [z_r p, z_x] [] w (fun r w' => z_G (d + 1) u 300 1557 ls (r.toList ++ st) w' Q)) := z_gcaV (d := d) (m := 300) (pc := 1554) (m' := 292) (k := 1) (nL := 2) (nx := 1557) (ci := 12) (p := p) (u := u) (ls := ls) (st := st) (w := w) (Q := Q) (vs := [z_r p]) ((zF300_25 1554 (by decide)).trans rfl) rfl rfl
set_option maxRecDepth 100000 in
theorem g300_1557 {d : Nat} {u : Nat × Nat} {ls st : List z_V} {w : z_W} {Q : z_P} {x : Int} : z_G d u 300 1557 ls (z_i x :: st) w Q ↔ z_G d u 300 1558 ls st w Q := z_gun ((zF300_25 1557 (by decide)).trans rfl)
set_option maxRecDepth 100000 in
theorem g300_1557r {d : Nat} {u : Nat × Nat} {ls st : List z_V} {w : z_W} {Q : z_P} {k : Nat} : z_G d u 300 1557 ls (z_r k :: st) w Q ↔ z_G d u 300 1558 ls st w Q := z_gun ((zF300_25 1557 (by decide)).trans rfl)
set_option maxRecDepth 100000 in
theorem g300_1558 {d : Nat} {u : Nat × Nat} {ls st : List z_V} {w : z_W} {Q : z_P} : z_G d u 300 1558 ls st w Q ↔ z_G d u 300 1586 ls st w Q := z_gun ((zF300_25 1558 (by decide)).trans rfl)
set_option maxRecDepth 100000 in
theorem g300_1561 {d : Nat} {u : Nat × Nat} {ls st : List z_V} {w : z_W} {Q : z_P} {o : Option Nat} {a0 : z_V} : z_G d u 300 1561 (a0 :: z_vr o :: ls) st w Q ↔ z_G d u 300 1562 (a0 :: z_vr o :: ls) (z_vr o :: st) w Q := z_gun ((zF300_25 1561 (by decide)).trans rfl)
set_option maxRecDepth 100000 in
theorem g300_1561r {d : Nat} {u : Nat × Nat} {ls st : List z_V} {w : z_W} {Q : z_P} {k : Nat} {a0 : z_V} : z_G d u 300 1561 (a0 :: z_r k :: ls) st w Q ↔ z_G d u 300 1562 (a0 :: z_r k :: ls) (z_r k :: st) w Q := z_gun ((zF300_25 1561 (by decide)).trans rfl)
set_option maxRecDepth 100000 in
theorem g300_1562 {d : Nat} {u : Nat × Nat} {ls st : List z_V} {w : z_W} {Q : z_P} {o : Option Nat} : z_G d u 300 1562 (z_vr o :: ls) st w Q ↔ z_G d u 300 1563 (z_vr o :: ls) (z_vr o :: st) w Q := z_gun ((zF300_25 1562 (by decide)).trans rfl)
set_option maxRecDepth 100000 in
theorem g300_1562r {d : Nat} {u : Nat × Nat} {ls st : List z_V} {w : z_W} {Q : z_P} {k : Nat} : z_G d u 300 1562 (z_r k :: ls) st w Q ↔ z_G d u 300 1563 (z_r k :: ls) (z_r k :: st) w Q := z_gun ((zF300_25 1562 (by decide)).trans rfl)
set_option maxRecDepth 100000 in
theorem g300_1563 {d : Nat} {u : Nat × Nat} {ls st : List z_V} {w : z_W} {Q : z_P} {z : Int} {a0 a1 a2 a3 : z_V} : z_G d u 300 1563 (a0 :: a1 :: a2 :: a3 :: z_i z :: ls) st w Q ↔ z_G d u 300 1565 (a0 :: a1 :: a2 :: a3 :: z_i z :: ls) (z_i z :: st) w Q := z_gun ((zF300_25 1563 (by decide)).trans rfl)
set_option maxRecDepth 100000 in
theorem g300_1565 {d : Nat} {u : Nat × Nat} {ls st : List z_V} {w : z_W} {Q : z_P} : z_G d u 300 1565 ls st w Q ↔ z_G d u 300 1566 ls (z_i (1) :: st) w Q := z_gun ((zF300_25 1565 (by decide)).trans rfl)
set_option maxRecDepth 100000 in
theorem g300_1566 {d : Nat} {u : Nat × Nat} {ls st : List z_V} {w : z_W} {Q : z_P} {x y : Int} : z_G d u 300 1566 ls (z_i y :: z_i x :: st) w Q ↔ z_G d u 300 1567 ls (z_i (z_add x y) :: st) w Q := z_gun ((zF300_25 1566 (by decide)).trans rfl)
set_option maxRecDepth 100000 in
theorem g300_1567 {d : Nat} {u : Nat × Nat} {ls st : List z_V} {w : z_W} {Q : z_P} {p : Nat} {i : Int} : z_G d u 300 1567 ls (z_i i :: z_r p :: st) w Q ↔ ((z_k w p = 100 ∨ z_k w p = 103) ∧ 0 ≤ i ∧ i < z_len w p ∧ (z_rg (z_I w p i) → z_G d u 300 1568 ls (z_i (z_I w p i) :: st) w Q)) := z_gun ((zF300_25 1567 (by decide)).trans rfl)
set_option maxRecDepth 100000 in
theorem g300_1568 {d : Nat} {u : Nat × Nat} {ls st : List z_V} {w : z_W} {Q : z_P} {p : Nat} {x0 : Int} : z_G (d + 1) u 300 1568 ls (z_i x0 :: z_r p :: st) w Q ↔ (z_k w p = 11 ∧ z_c8 st 8 = true ∧ z_G d (0, 0) 165 0 [z_r p, z_i x0] [] w (fun r w' => z_G (d + 1) u 300 1571 ls (r.toList ++ st) w' Q)) := z_gcaV (d := d) (m := 300) (pc := 1568) (m' := 165) (k := 2) (nL := 2) (nx := 1571) (ci := 11) (p := p) (u := u) (ls := ls) (st := st) (w := w) (Q := Q) (vs := [z_r p, z_i x0]) ((zF300_25 1568 (by decide)).trans rfl) rfl rfl
set_option maxRecDepth 100000 in
theorem g300_1571 {d : Nat} {u : Nat × Nat} {ls st : List z_V} {w : z_W} {Q : z_P} {o : Option Nat} {a0 a1 : z_V} : z_G d u 300 1571 (a0 :: a1 :: z_vr o :: ls) st w Q ↔ z_G d u 300 1572 (a0 :: a1 :: z_vr o :: ls) (z_vr o :: st) w Q := z_gun ((zF300_25 1571 (by decide)).trans rfl)
set_option maxRecDepth 100000 in
theorem g300_1571r {d : Nat} {u : Nat × Nat} {ls st : List z_V} {w : z_W} {Q : z_P} {k : Nat} {a0 a1 : z_V} : z_G d u 300 1571 (a0 :: a1 :: z_r k :: ls) st w Q ↔ z_G d u 300 1572 (a0 :: a1 :: z_r k :: ls) (z_r k :: st) w Q := z_gun ((zF300_25 1571 (by decide)).trans rfl)
set_option maxRecDepth 100000 in
theorem g300_1572 {d : Nat} {u : Nat × Nat} {ls st : List z_V} {w : z_W} {Q : z_P} {o : Option Nat} : z_G d u 300 1572 (z_vr o :: ls) st w Q ↔ z_G d u 300 1573 (z_vr o :: ls) (z_vr o :: st) w Q := z_gun ((zF300_25 1572 (by decide)).trans rfl)
set_option maxRecDepth 100000 in
theorem g300_1572r {d : Nat} {u : Nat × Nat} {ls st : List z_V} {w : z_W} {Q : z_P} {k : Nat} : z_G d u 300 1572 (z_r k :: ls) st w Q ↔ z_G d u 300 1573 (z_r k :: ls) (z_r k :: st) w Q := z_gun ((zF300_25 1572 (by decide)).trans rfl)
set_option maxRecDepth 100000 in
theorem g300_1573 {d : Nat} {u : Nat × Nat} {ls st : List z_V} {w : z_W} {Q : z_P} {z : Int} {a0 a1 a2 a3 : z_V} : z_G d u 300 1573 (a0 :: a1 :: a2 :: a3 :: z_i z :: ls) st w Q ↔ z_G d u 300 1575 (a0 :: a1 :: a2 :: a3 :: z_i z :: ls) (z_i z :: st) w Q := z_gun ((zF300_25 1573 (by decide)).trans rfl)
set_option maxRecDepth 100000 in
theorem g300_1575 {d : Nat} {u : Nat × Nat} {ls st : List z_V} {w : z_W} {Q : z_P} : z_G d u 300 1575 ls st w Q ↔ z_G d u 300 1576 ls (z_i (1) :: st) w Q := z_gun ((zF300_25 1575 (by decide)).trans rfl)
set_option maxRecDepth 100000 in
theorem g300_1576 {d : Nat} {u : Nat × Nat} {ls st : List z_V} {w : z_W} {Q : z_P} {x y : Int} : z_G d u 300 1576 ls (z_i y :: z_i x :: st) w Q ↔ z_G d u 300 1577 ls (z_i (z_add x y) :: st) w Q := z_gun ((zF300_25 1576 (by decide)).trans rfl)
set_option maxRecDepth 100000 in
theorem g300_1577 {d : Nat} {u : Nat × Nat} {ls st : List z_V} {w : z_W} {Q : z_P} {p : Nat} {i : Int} : z_G d u 300 1577 ls (z_i i :: z_r p :: st) w Q ↔ ((z_k w p = 100 ∨ z_k w p = 103) ∧ 0 ≤ i ∧ i < z_len w p ∧ (z_rg (z_I w p i) → z_G d u 300 1578 ls (z_i (z_I w p i) :: st) w Q)) := z_gun ((zF300_25 1577 (by decide)).trans rfl)
set_option maxRecDepth 100000 in
theorem g300_1578 {d : Nat} {u : Nat × Nat} {ls st : List z_V} {w : z_W} {Q : z_P} {p : Nat} {x0 : Int} : z_G (d + 1) u 300 1578 ls (z_i x0 :: z_r p :: st) w Q ↔ (z_k w p = 12 ∧ z_c8 st 8 = true ∧ z_G d (0, 0) 293 0 [z_r p, z_i x0] [] w (fun r w' => z_G (d + 1) u 300 1581 ls (r.toList ++ st) w' Q)) := z_gcaV (d := d) (m := 300) (pc := 1578) (m' := 293) (k := 2) (nL := 2) (nx := 1581) (ci := 12) (p := p) (u := u) (ls := ls) (st := st) (w := w) (Q := Q) (vs := [z_r p, z_i x0]) ((zF300_25 1578 (by decide)).trans rfl) rfl rfl
set_option maxRecDepth 100000 in
theorem g300_1581 {d : Nat} {u : Nat × Nat} {ls st : List z_V} {w : z_W} {Q : z_P} {x y : Int} : z_G d u 300 1581 ls (z_i y :: z_i x :: st) w Q ↔ ((x = y → z_G d u 300 1586 ls st w Q) ∧ (¬ (x = y) → z_G d u 300 1584 ls st w Q)) := z_gun ((zF300_25 1581 (by decide)).trans rfl)
set_option maxRecDepth 100000 in
theorem g300_1584 {d : Nat} {u : Nat × Nat} {ls st : List z_V} {w : z_W} {Q : z_P} : z_G d u 300 1584 ls st w Q ↔ z_G d u 300 1585 ls (z_i (0) :: st) w Q := z_gun ((zF300_25 1584 (by decide)).trans rfl)
set_option maxRecDepth 100000 in
theorem g300_1585 {d : Nat} {u : Nat × Nat} {ls st : List z_V} {w : z_W} {Q : z_P} {x : Int} : z_G d u 300 1585 ls [z_i x] w Q ↔ ((x = 0 ∨ x = 1) ∧ Q (some (z_i x)) w) := z_gun ((zF300_25 1585 (by decide)).trans rfl)
set_option maxRecDepth 100000 in
theorem g300_1586 {d : Nat} {u : Nat × Nat} {ls st : List z_V} {w : z_W} {Q : z_P} {z : Int} {a0 a1 a2 a3 : z_V} : z_G d u 300 1586 (a0 :: a1 :: a2 :: a3 :: z_i z :: ls) st w Q ↔ z_G d u 300 1589 (a0 :: a1 :: a2 :: z_kl a3 :: z_i (z_add z (7)) :: ls) st w Q := z_gun ((zF300_25 1586 (by decide)).trans rfl)
set_option maxRecDepth 100000 in
theorem g300_1589 {d : Nat} {u : Nat × Nat} {ls st : List z_V} {w : z_W} {Q : z_P} : z_G d u 300 1589 ls st w Q ↔ z_G d u 300 23 ls st w Q := z_gun ((zF300_25 1589 (by decide)).trans rfl)
set_option maxRecDepth 100000 in
theorem g300_1592 {d : Nat} {u : Nat × Nat} {ls st : List z_V} {w : z_W} {Q : z_P} : z_G d u 300 1592 ls st w Q ↔ z_G d u 300 1593 ls (z_i (1) :: st) w Q := z_gun ((zF300_25 1592 (by decide)).trans rfl)
set_option maxRecDepth 100000 in
theorem g300_1593 {d : Nat} {u : Nat × Nat} {ls st : List z_V} {w : z_W} {Q : z_P} {x : Int} : z_G d u 300 1593 ls [z_i x] w Q ↔ ((x = 0 ∨ x = 1) ∧ Q (some (z_i x)) w) := z_gun ((zF300_25 1593 (by decide)).trans rfl)
