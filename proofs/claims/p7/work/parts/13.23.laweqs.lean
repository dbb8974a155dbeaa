set_option maxRecDepth 100000 in
theorem g300_1423r {d : Nat} {u : Nat × Nat} {ls st : List z_V} {w : z_W} {Q : z_P} {k : Nat} : z_G d u 300 1423 ls (z_r k :: st) w Q ↔ z_G d u 300 1424 ls st w Q := z_gun ((zF300_22 1423 (by decide)).trans rfl)
set_option maxRecDepth 100000 in
theorem g300_1424 {d : Nat} {u : Nat × Nat} {ls st : List z_V} {w : z_W} {Q : z_P} : z_G d u 300 1424 ls st w Q ↔ z_G d u 300 1614 ls st w Q := z_gun ((zF300_22 1424 (by decide)).trans rfl)
set_option maxRecDepth 100000 in
theorem g300_1427 {d : Nat} {u : Nat × Nat} {ls st : List z_V} {w : z_W} {Q : z_P} {o : Option Nat} {a0 : z_V} : z_G d u 300 1427 (a0 :: z_vr o :: ls) st w Q ↔ z_G d u 300 1428 (a0 :: z_vr o :: ls) (z_vr o :: st) w Q := z_gun ((zF300_22 1427 (by decide)).trans rfl)
set_option maxRecDepth 100000 in
theorem g300_1427r {d : Nat} {u : Nat × Nat} {ls st : List z_V} {w : z_W} {Q : z_P} {k : Nat} {a0 : z_V} : z_G d u 300 1427 (a0 :: z_r k :: ls) st w Q ↔ z_G d u 300 1428 (a0 :: z_r k :: ls) (z_r k :: st) w Q := z_gun ((zF300_22 1427 (by decide)).trans rfl)
set_option maxRecDepth 100000 in
theorem g300_1428 {d : Nat} {u : Nat × Nat} {ls st : List z_V} {w : z_W} {Q : z_P} {o : Option Nat} : z_G d u 300 1428 (z_vr o :: ls) st w Q ↔ z_G d u 300 1429 (z_vr o :: ls) (z_vr o :: st) w Q := z_gun ((zF300_22 1428 (by decide)).trans rfl)
set_option maxRecDepth 100000 in
theorem g300_1428r {d : Nat} {u : Nat × Nat} {ls st : List z_V} {w : z_W} {Q : z_P} {k : Nat} : z_G d u 300 1428 (z_r k :: ls) st w Q ↔ z_G d u 300 1429 (z_r k :: ls) (z_r k :: st) w Q := z_gun ((zF300_22 1428 (by decide)).trans rfl)
set_option maxRecDepth 100000 in
theorem g300_1429 {d : Nat} {u : Nat × Nat} {ls st : List z_V} {w : z_W} {Q : z_P} {z : Int} {a0 a1 a2 a3 : z_V} : z_G d u 300 1429 (a0 :: a1 :: a2 :: a3 :: z_i z :: ls) st w Q ↔ z_G d u 300 1431 (a0 :: a1 :: a2 :: a3 :: z_i z :: ls) (z_i z :: st) w Q := z_gun ((zF300_22 1429 (by decide)).trans rfl)
set_option maxRecDepth 100000 in
theorem g300_1431 {d : Nat} {u : Nat × Nat} {ls st : List z_V} {w : z_W} {Q : z_P} : z_G d u 300 1431 ls st w Q ↔ z_G d u 300 1432 ls (z_i (1) :: st) w Q := z_gun ((zF300_23 1431 (by decide)).trans rfl)
set_option maxRecDepth 100000 in
theorem g300_1432 {d : Nat} {u : Nat × Nat} {ls st : List z_V} {w : z_W} {Q : z_P} {x y : Int} : z_G d u 300 1432 ls (z_i y :: z_i x :: st) w Q ↔ z_G d u 300 1433 ls (z_i (z_add x y) :: st) w Q := z_gun ((zF300_23 1432 (by decide)).trans rfl)
set_option maxRecDepth 100000 in
theorem g300_1433 {d : Nat} {u : Nat × Nat} {ls st : List z_V} {w : z_W} {Q : z_P} {p : Nat} {i : Int} : z_G d u 300 1433 ls (z_i i :: z_r p :: st) w Q ↔ ((z_k w p = 100 ∨ z_k w p = 103) ∧ 0 ≤ i ∧ i < z_len w p ∧ (z_rg (z_I w p i) → z_G d u 300 1434 ls (z_i (z_I w p i) :: st) w Q)) := z_gun ((zF300_23 1433 (by decide)).trans rfl)
set_option maxRecDepth 100000 in
theorem g300_1434 {d : Nat} {u : Nat × Nat} {ls st : List z_V} {w : z_W} {Q : z_P} {o : Option Nat} : z_G d u 300 1434 (z_vr o :: ls) st w Q ↔ z_G d u 300 1435 (z_vr o :: ls) (z_vr o :: st) w Q := z_gun ((zF300_23 1434 (by decide)).trans rfl)
set_option maxRecDepth 100000 in
theorem g300_1434r {d : Nat} {u : Nat × Nat} {ls st : List z_V} {w : z_W} {Q : z_P} {k : Nat} : z_G d u 300 1434 (z_r k :: ls) st w Q ↔ z_G d u 300 1435 (z_r k :: ls) (z_r k :: st) w Q := z_gun ((zF300_23 1434 (by decide)).trans rfl)
set_option maxRecDepth 100000 in
theorem g300_1435 {d : Nat} {u : Nat × Nat} {ls st : List z_V} {w : z_W} {Q : z_P} {z : Int} {a0 a1 a2 a3 : z_V} : z_G d u 300 1435 (a0 :: a1 :: a2 :: a3 :: z_i z :: ls) st w Q ↔ z_G d u 300 1437 (a0 :: a1 :: a2 :: a3 :: z_i z :: ls) (z_i z :: st) w Q := z_gun ((zF300_23 1435 (by decide)).trans rfl)
set_option maxRecDepth 100000 in
theorem g300_1437 {d : Nat} {u : Nat × Nat} {ls st : List z_V} {w : z_W} {Q : z_P} : z_G d u 300 1437 ls st w Q ↔ z_G d u 300 1438 ls (z_i (2) :: st) w Q := z_gun ((zF300_23 1437 (by decide)).trans rfl)
set_option maxRecDepth 100000 in
theorem g300_1438 {d : Nat} {u : Nat × Nat} {ls st : List z_V} {w : z_W} {Q : z_P} {x y : Int} : z_G d u 300 1438 ls (z_i y :: z_i x :: st) w Q ↔ z_G d u 300 1439 ls (z_i (z_add x y) :: st) w Q := z_gun ((zF300_23 1438 (by decide)).trans rfl)
set_option maxRecDepth 100000 in
theorem g300_1439 {d : Nat} {u : Nat × Nat} {ls st : List z_V} {w : z_W} {Q : z_P} {p : Nat} {i : Int} : z_G d u 300 1439 ls (z_i i :: z_r p :: st) w Q ↔ ((z_k w p = 100 ∨ z_k w p = 103) ∧ 0 ≤ i ∧ i < z_len w p ∧ (z_rg (z_I w p i) → z_G d u 300 1440 ls (z_i (z_I w p i) :: st) w Q)) := z_gun ((zF300_23 1439 (by decide)).trans rfl)
set_option maxRecDepth 100000 in
theorem g300_1440 {d : Nat} {u : Nat × Nat} {ls st : List z_V} {w : z_W} {Q : z_P} {o : Option Nat} : z_G d u 300 1440 (z_vr o :: ls) st w Q ↔ z_G d u 300 1441 (z_vr o :: ls) (z_vr o :: st) w Q := z_gun ((zF300_23 1440 (by decide)).trans rfl)
set_option maxRecDepth 100000 in
theorem g300_1440r {d : Nat} {u : Nat × Nat} {ls st : List z_V} {w : z_W} {Q : z_P} {k : Nat} : z_G d u 300 1440 (z_r k :: ls) st w Q ↔ z_G d u 300 1441 (z_r k :: ls) (z_r k :: st) w Q := z_gun ((zF300_23 1440 (by decide)).trans rfl)
set_option maxRecDepth 100000 in
theorem g300_1441 {d : Nat} {u : Nat × Nat} {ls st : List z_V} {w : z_W} {Q : z_P} {z : Int} {a0 a1 a2 a3 : z_V} : z_G d u 300 1441 (a0 :: a1 :: a2 :: a3 :: z_i z :: ls) st w Q ↔ z_G d u 300 1443 (a0 :: a1 :: a2 :: a3 :: z_i z :: ls) (z_i z :: st) w Q := z_gun ((zF300_23 1441 (by decide)).trans rfl)
set_option maxRecDepth 100000 in
theorem g300_1443 {d : Nat} {u : Nat × Nat} {ls st : List z_V} {w : z_W} {Q : z_P} : z_G d u 300 1443 ls st w Q ↔ z_G d u 300 1444 ls (z_i (3) :: st) w Q := z_gun ((zF300_23 1443 (by decide)).trans rfl)
set_option maxRecDepth 100000 in
theorem g300_1444 {d : Nat} {u : Nat × Nat} {ls st : List z_V} {w : z_W} {Q : z_P} {x y : Int} : z_G d u 300 1444 ls (z_i y :: z_i x :: st) w Q ↔ z_G d u 300 1445 ls (z_i (z_add x y) :: st) w Q := z_gun ((zF300_23 1444 (by decide)).trans rfl)
set_option maxRecDepth 100000 in
theorem g300_1445 {d : Nat} {u : Nat × Nat} {ls st : List z_V} {w : z_W} {Q : z_P} {p : Nat} {i : Int} : z_G d u 300 1445 ls (z_i i :: z_r p :: st) w Q ↔ ((z_k w p = 100 ∨ z_k w p = 103) ∧ 0 ≤ i ∧ i < z_len w p ∧ (z_rg (z_I w p i) → z_G d u 300 1446 ls (z_i (z_I w p i) :: st) w Q)) := z_gun ((zF300_23 1445 (by decide)).trans rfl)
set_option maxRecDepth 100000 in
theorem g300_1446 {d : Nat} {u : Nat × Nat} {ls st : List z_V} {w : z_W} {Q : z_P} {p : Nat} {x0 x1 x2 : Int} : z_G (d + 1) u 300 1446 ls (z_i x2 :: z_i x1 :: z_i x0 :: z_r p :: st) w Q ↔ (z_k w p = 11 ∧ z_c8 st 8 = true ∧ z_G d (0, 0) 157 0 [z_r p, z_i x0, z_i x1, z_i x2, z_x] [] w (fun r w' => z_G (d + 1) u 300 1449 ls (r.toList ++ st) w' Q)) := z_gcaV (d := d) (m := 300) (pc := 1446) (m' := 157) (k := 4) (nL := 5) (nx := 1449) (ci := 11) (p := p) (u := u) (ls := ls) (st := st) (w := w) (Q := Q) (vs := [z_r p, z_i x0, z_i x1, z_i x2]) ((zF300_23 1446 (by decide)).trans rfl) rfl rfl
set_option maxRecDepth 100000 in
theorem g300_1449 {d : Nat} {u : Nat × Nat} {ls st : List z_V} {w : z_W} {Q : z_P} {x : Int} : z_G d u 300 1449 ls (z_i x :: st) w Q ↔ z_G d u 300 1450 ls st w Q := z_gun ((zF300_23 1449 (by decide)).trans rfl)
set_option maxRecDepth 100000 in
theorem g300_1449r {d : Nat} {u : Nat × Nat} {ls st : List z_V} {w : z_W} {Q : z_P} {k : Nat} : z_G d u 300 1449 ls (z_r k :: st) w Q ↔ z_G d u 300 1450 ls st w Q := z_gun ((zF300_23 1449 (by decide)).trans rfl)
set_option maxRecDepth 100000 in
theorem g300_1450 {d : Nat} {u : Nat × Nat} {ls st : List z_V} {w : z_W} {Q : z_P} {o : Option Nat} {a0 a1 : z_V} : z_G d u 300 1450 (a0 :: a1 :: z_vr o :: ls) st w Q ↔ z_G d u 300 1451 (a0 :: a1 :: z_vr o :: ls) (z_vr o :: st) w Q := z_gun ((zF300_23 1450 (by decide)).trans rfl)
set_option maxRecDepth 100000 in
theorem g300_1450r {d : Nat} {u : Nat × Nat} {ls st : List z_V} {w : z_W} {Q : z_P} {k : Nat} {a0 a1 : z_V} : z_G d u 300 1450 (a0 :: a1 :: z_r k :: ls) st w Q ↔ z_G d u 300 1451 (a0 :: a1 :: z_r k :: ls) (z_r k :: st) w Q := z_gun ((zF300_23 1450 (by decide)).trans rfl)
set_option maxRecDepth 100000 in
theorem g300_1451 {d : Nat} {u : Nat × Nat} {ls st : List z_V} {w : z_W} {Q : z_P} {o : Option Nat} : z_G d u 300 1451 (z_vr o :: ls) st w Q ↔ z_G d u 300 1452 (z_vr o :: ls) (z_vr o :: st) w Q := z_gun ((zF300_23 1451 (by decide)).trans rfl)
set_option maxRecDepth 100000 in
theorem g300_1451r {d : Nat} {u : Nat × Nat} {ls st : List z_V} {w : z_W} {Q : z_P} {k : Nat} : z_G d u 300 1451 (z_r k :: ls) st w Q ↔ z_G d u 300 1452 (z_r k :: ls) (z_r k :: st) w Q := z_gun ((zF300_23 1451 (by decide)).trans rfl)
set_option maxRecDepth 100000 in
theorem g300_1452 {d : Nat} {u : Nat × Nat} {ls st : List z_V} {w : z_W} {Q : z_P} {z : Int} {a0 a1 a2 a3 : z_V} : z_G d u 300 1452 (a0 :: a1 :: a2 :: a3 :: z_i z :: ls) st w Q ↔ z_G d u 300 1454 (a0 :: a1 :: a2 :: a3 :: z_i z :: ls) (z_i z :: st) w Q := z_gun ((zF300_23 1452 (by decide)).trans rfl)
set_option maxRecDepth 100000 in
theorem g300_1454 {d : Nat} {u : Nat × Nat} {ls st : List z_V} {w : z_W} {Q : z_P} : z_G d u 300 1454 ls st w Q ↔ z_G d u 300 1455 ls (z_i (1) :: st) w Q := z_gun ((zF300_23 1454 (by decide)).trans rfl)
set_option maxRecDepth 100000 in
theorem g300_1455 {d : Nat} {u : Nat × Nat} {ls st : List z_V} {w : z_W} {Q : z_P} {x y : Int} : z_G d u 300 1455 ls (z_i y :: z_i x :: st) w Q ↔ z_G d u 300 1456 ls (z_i (z_add x y) :: st) w Q := z_gun ((zF300_23 1455 (by decide)).trans rfl)
set_option maxRecDepth 100000 in
theorem g300_1456 {d : Nat} {u : Nat × Nat} {ls st : List z_V} {w : z_W} {Q : z_P} {p : Nat} {i : Int} : z_G d u 300 1456 ls (z_i i :: z_r p :: st) w Q ↔ ((z_k w p = 100 ∨ z_k w p = 103) ∧ 0 ≤ i ∧ i < z_len w p ∧ (z_rg (z_I w p i) → z_G d u 300 1457 ls (z_i (z_I w p i) :: st) w Q)) := z_gun ((zF300_23 1456 (by decide)).trans rfl)
set_option maxRecDepth 100000 in
theorem g300_1457 {d : Nat} {u : Nat × Nat} {ls st : List z_V} {w : z_W} {Q : z_P} {o : Option Nat} : z_G d u 300 1457 (z_vr o :: ls) st w Q ↔ z_G d u 300 1458 (z_vr o :: ls) (z_vr o :: st) w Q := z_gun ((zF300_23 1457 (by decide)).trans rfl)
set_option maxRecDepth 100000 in
theorem g300_1457r {d : Nat} {u : Nat × Nat} {ls st : List z_V} {w : z_W} {Q : z_P} {k : Nat} : z_G d u 300 1457 (z_r k :: ls) st w Q ↔ z_G d u 300 1458 (z_r k :: ls) (z_r k :: st) w Q := z_gun ((zF300_23 1457 (by decide)).trans rfl)
set_option maxRecDepth 100000 in
theorem g300_1458 {d : Nat} {u : Nat × Nat} {ls st : List z_V} {w : z_W} {Q : z_P} {z : Int} {a0 a1 a2 a3 : z_V} : z_G d u 300 1458 (a0 :: a1 :: a2 :: a3 :: z_i z :: ls) st w Q ↔ z_G d u 300 1460 (a0 :: a1 :: a2 :: a3 :: z_i z :: ls) (z_i z :: st) w Q := z_gun ((zF300_23 1458 (by decide)).trans rfl)
set_option maxRecDepth 100000 in
theorem g300_1460 {d : Nat} {u : Nat × Nat} {ls st : List z_V} {w : z_W} {Q : z_P} : z_G d u 300 1460 ls st w Q ↔ z_G d u 300 1461 ls (z_i (2) :: st) w Q := z_gun ((zF300_23 1460 (by decide)).trans rfl)
set_option maxRecDepth 100000 in
theorem g300_1461 {d : Nat} {u : Nat × Nat} {ls st : List z_V} {w : z_W} {Q : z_P} {x y : Int} : z_G d u 300 1461 ls (z_i y :: z_i x :: st) w Q ↔ z_G d u 300 1462 ls (z_i (z_add x y) :: st) w Q := z_gun ((zF300_23 1461 (by decide)).trans rfl)
set_option maxRecDepth 100000 in
theorem g300_1462 {d : Nat} {u : Nat × Nat} {ls st : List z_V} {w : z_W} {Q : z_P} {p : Nat} {i : Int} : z_G d u 300 1462 ls (z_i i :: z_r p :: st) w Q ↔ ((z_k w p = 100 ∨ z_k w p = 103) ∧ 0 ≤ i ∧ i < z_len w p ∧ (z_rg (z_I w p i) → z_G d u 300 1463 ls (z_i (z_I w p i) :: st) w Q)) := z_gun ((zF300_23 1462 (by decide)).trans rfl)
set_option maxRecDepth 100000 in
theorem g300_1463 {d : Nat} {u : Nat × Nat} {ls st : List z_V} {w : z_W} {Q : z_P} {o : Option Nat} : z_G d u 300 1463 (z_vr o :: ls) st w Q ↔ z_G d u 300 1464 (z_vr o :: ls) (z_vr o :: st) w Q := z_gun ((zF300_23 1463 (by decide)).trans rfl)
set_option maxRecDepth 100000 in
theorem g300_1463r {d : Nat} {u : Nat × Nat} {ls st : List z_V} {w : z_W} {Q : z_P} {k : Nat} : z_G d u 300 1463 (z_r k :: ls) st w Q ↔ z_G d u 300 1464 (z_r k :: ls) (z_r k :: st) w Q := z_gun ((zF300_23 1463 (by decide)).trans rfl)
set_option maxRecDepth 100000 in
theorem g300_1464 {d : Nat} {u : Nat × Nat} {ls st : List z_V} {w : z_W} {Q : z_P} {z : Int} {a0 a1 a2 a3 : z_V} : z_G d u 300 1464 (a0 :: a1 :: a2 :: a3 :: z_i z :: ls) st w Q ↔ z_G d u 300 1466 (a0 :: a1 :: a2 :: a3 :: z_i z :: ls) (z_i z :: st) w Q := z_gun ((zF300_23 1464 (by decide)).trans rfl)
set_option maxRecDepth 100000 in
theorem g300_1466 {d : Nat} {u : Nat × Nat} {ls st : List z_V} {w : z_W} {Q : z_P} : z_G d u 300 1466 ls st w Q ↔ z_G d u 300 1467 ls (z_i (3) :: st) w Q := z_gun ((zF300_23 1466 (by decide)).trans rfl)
set_option maxRecDepth 100000 in
theorem g300_1467 {d : Nat} {u : Nat × Nat} {ls st : List z_V} {w : z_W} {Q : z_P} {x y : Int} : z_G d u 300 1467 ls (z_i y :: z_i x :: st) w Q ↔ z_G d u 300 1468 ls (z_i (z_add x y) :: st) w Q := z_gun ((zF300_23 1467 (by decide)).trans rfl)
set_option maxRecDepth 100000 in
theorem g300_1468 {d : Nat} {u : Nat × Nat} {ls st : List z_V} {w : z_W} {Q : z_P} {p : Nat} {i : Int} : z_G d u 300 1468 ls (z_i i :: z_r p :: st) w Q ↔ ((z_k w p = 100 ∨ z_k w p = 103) ∧ 0 ≤ i ∧ i < z_len w p ∧ (z_rg (z_I w p i) → z_G d u 300 1469 ls (z_i (z_I w p i) :: st) w Q)) := z_gun ((zF300_23 1468 (by decide)).trans rfl)
set_option maxRecDepth 100000 in
theorem g300_1469 {d : Nat} {u : Nat × Nat} {ls st : List z_V} {w : z_W} {Q : z_P} {p : Nat} {x0 x1 x2 : Int} : z_G (d + 1) u 300 1469 ls (z_i x2 :: z_i x1 :: z_i x0 :: z_r p :: st) w Q ↔ (z_k w p = 12 ∧ z_c8 st 8 = true ∧ z_G d (0, 0) 279 0 [z_r p, z_i x0, z_i x1, z_i x2] [] w (fun r w' => z_G (d + 1) u 300 1472 ls (r.toList ++ st) w' Q)) := z_gcaV (d := d) (m := 300) (pc := 1469) (m' := 279) (k := 4) (nL := 4) (nx := 1472) (ci := 12) (p := p) (u := u) (ls := ls) (st := st) (w := w) (Q := Q) (vs := [z_r p, z_i x0, z_i x1, z_i x2]) ((zF300_23 1469 (by decide)).trans rfl) rfl rfl
set_option maxRecDepth 100000 in
theorem g300_1472 {d : Nat} {u : Nat × Nat} {ls st : List z_V} {w : z_W} {Q : z_P} {x : Int} : z_G d u 300 1472 ls (z_i x :: st) w Q ↔ z_G d u 300 1473 ls st w Q := z_gun ((zF300_23 1472 (by decide)).trans rfl)
set_option maxRecDepth 100000 in
theorem g300_1472r {d : Nat} {u : Nat × Nat} {ls st : List z_V} {w : z_W} {Q : z_P} {k : Nat} : z_G d u 300 1472 ls (z_r k :: st) w Q ↔ z_G d u 300 1473 ls st w Q := z_gun ((zF300_23 1472 (by decide)).trans rfl)
set_option maxRecDepth 100000 in
theorem g300_1473 {d : Nat} {u : Nat × Nat} {ls st : List z_V} {w : z_W} {Q : z_P} : z_G d u 300 1473 ls st w Q ↔ z_G d u 300 1614 ls st w Q := z_gun ((zF300_23 1473 (by decide)).trans rfl)
set_option maxRecDepth 100000 in
theorem g300_1476 {d : Nat} {u : Nat × Nat} {ls st : List z_V} {w : z_W} {Q : z_P} {o : Option Nat} {a0 : z_V} : z_G d u 300 1476 (a0 :: z_vr o :: ls) st w Q ↔ z_G d u 300 1477 (a0 :: z_vr o :: ls) (z_vr o :: st) w Q := z_gun ((zF300_23 1476 (by decide)).trans rfl)
set_option maxRecDepth 100000 in
theorem g300_1476r {d : Nat} {u : Nat × Nat} {ls st : List z_V} {w : z_W} {Q : z_P} {k : Nat} {a0 : z_V} : z_G d u 300 1476 (a0 :: z_r k :: ls) st w Q ↔ z_G d u 300 1477 (a0 :: z_r k :: ls) (z_r k :: st) w Q := z_gun ((zF300_23 1476 (by decide)).trans rfl)
set_option maxRecDepth 100000 in
theorem g300_1477 {d : Nat} {u : Nat × Nat} {ls st : List z_V} {w : z_W} {Q : z_P} {o : Option Nat} : z_G d u 300 1477 (z_vr o :: ls) st w Q ↔ z_G d u 300 1478 (z_vr o :: ls) (z_vr o :: st) w Q := z_gun ((zF300_23 1477 (by decide)).trans rfl)
set_option maxRecDepth 100000 in
theorem g300_1477r {d : Nat} {u : Nat × Nat} {ls st : List z_V} {w : z_W} {Q : z_P} {k : Nat} : z_G d u 300 1477 (z_r k :: ls) st w Q ↔ z_G d u 300 1478 (z_r k :: ls) (z_r k :: st) w Q := z_gun ((zF300_23 1477 (by decide)).trans rfl)
set_option maxRecDepth 100000 in
theorem g300_1478 {d : Nat} {u : Nat × Nat} {ls st : List z_V} {w : z_W} {Q : z_P} {z : Int} {a0 a1 a2 a3 : z_V} : z_G d u 300 1478 (a0 :: a1 :: a2 :: a3 :: z_i z :: ls) st w Q ↔ z_G d u 300 1480 (a0 :: a1 :: a2 :: a3 :: z_i z :: ls) (z_i z :: st) w Q := z_gun ((zF300_23 1478 (by decide)).trans rfl)
set_option maxRecDepth 100000 in
theorem g300_1480 {d : Nat} {u : Nat × Nat} {ls st : List z_V} {w : z_W} {Q : z_P} : z_G d u 300 1480 ls st w Q ↔ z_G d u 300 1481 ls (z_i (1) :: st) w Q := z_gun ((zF300_23 1480 (by decide)).trans rfl)
set_option maxRecDepth 100000 in
theorem g300_1481 {d : Nat} {u : Nat × Nat} {ls st : List z_V} {w : z_W} {Q : z_P} {x y : Int} : z_G d u 300 1481 ls (z_i y :: z_i x :: st) w Q ↔ z_G d u 300 1482 ls (z_i (z_add x y) :: st) w Q := z_gun ((zF300_23 1481 (by decide)).trans rfl)
set_option maxRecDepth 100000 in
theorem g300_1482 {d : Nat} {u : Nat × Nat} {ls st : List z_V} {w : z_W} {Q : z_P} {p : Nat} {i : Int} : z_G d u 300 1482 ls (z_i i :: z_r p :: st) w Q ↔ ((z_k w p = 100 ∨ z_k w p = 103) ∧ 0 ≤ i ∧ i < z_len w p ∧ (z_rg (z_I w p i) → z_G d u 300 1483 ls (z_i (z_I w p i) :: st) w Q)) := z_gun ((zF300_23 1482 (by decide)).trans rfl)
set_option maxRecDepth 100000 in
theorem g300_1483 {d : Nat} {u : Nat × Nat} {ls st : List z_V} {w : z_W} {Q : z_P} {o : Option Nat} : z_G d u 300 1483 (z_vr o :: ls) st w Q ↔ z_G d u 300 1484 (z_vr o :: ls) (z_vr o :: st) w Q := z_gun ((zF300_24 1483 (by decide)).trans rfl)
set_option maxRecDepth 100000 in
theorem g300_1483r {d : Nat} {u : Nat × Nat} {ls st : List z_V} {w : z_W} {Q : z_P} {k : Nat} : z_G d u 300 1483 (z_r k :: ls) st w Q ↔ z_G d u 300 1484 (z_r k :: ls) (z_r k :: st) w Q := z_gun ((zF300_24 1483 (by decide)).trans rfl)
set_option maxRecDepth 100000 in
theorem g300_1484 {d : Nat} {u : Nat × Nat} {ls st : List z_V} {w : z_W} {Q : z_P} {z : Int} {a0 a1 a2 a3 : z_V} : z_G d u 300 1484 (a0 :: a1 :: a2 :: a3 :: z_i z :: ls) st w Q ↔ z_G d u 300 1486 (a0 :: a1 :: a2 :: a3 :: z_i z :: ls) (z_i z :: st) w Q := z_gun ((zF300_24 1484 (by decide)).trans rfl)
set_option maxRecDepth 100000 in
theorem g300_1486 {d : Nat} {u : Nat × Nat} {ls st : List z_V} {w : z_W} {Q : z_P} : z_G d u 300 1486 ls st w Q ↔ z_G d u 300 1487 ls (z_i (2) :: st) w Q := z_gun ((zF300_24 1486 (by decide)).trans rfl)
set_option maxRecDepth 100000 in
theorem g300_1487 {d : Nat} {u : Nat × Nat} {ls st : List z_V} {w : z_W} {Q : z_P} {x y : Int} : z_G d u 300 1487 ls (z_i y :: z_i x :: st) w Q ↔ z_G d u 300 1488 ls (z_i (z_add x y) :: st) w Q := z_gun ((zF300_24 1487 (by decide)).trans rfl)
set_option maxRecDepth 100000 in
theorem g300_1488 {d : Nat} {u : Nat × Nat} {ls st : List z_V} {w : z_W} {Q : z_P} {p : Nat} {i : Int} : z_G d u 300 1488 ls (z_i i :: z_r p :: st) w Q ↔ ((z_k w p = 100 ∨ z_k w p = 103) ∧ 0 ≤ i ∧ i < z_len w p ∧ (z_rg (z_I w p i) → z_G d u 300 1489 ls (z_i (z_I w p i) :: st) w Q)) := z_gun ((zF300_24 1488 (by decide)).trans rfl)
set_option maxRecDepth 100000 in
theorem g300_1489 {d : Nat} {u : Nat × Nat} {ls st : List z_V} {w : z_W} {Q : z_P} {p : Nat} {x0 x1 : Int} : z_G (d + 1) u 300 1489 ls (z_i x1 :: z_i x0 :: z_r p :: st) w Q ↔ (z_k w p = 11 ∧ z_c8 st 8 = true ∧ z_G d (0, 0) 158 0 [z_r p, z_i x0, z_i x1, z_x, z_x] [] w (fun r w' => z_G (d + 1) u 300 1492 ls (r.toList ++ st) w' Q)) := z_gcaV (d := d) (m := 300) (pc := 1489) (m' := 158) (k := 3) (nL := 5) (nx := 1492) (ci := 11) (p := p) (u := u) (ls := ls) (st := st) (w := w) (Q := Q) (vs := [z_r p, z_i x0, z_i x1]) ((zF300_24 1489 (by decide)).trans rfl) rfl rfl
set_option maxRecDepth 100000 in
theorem g300_1492 {d : Nat} {u : Nat × Nat} {ls st : List z_V} {w : z_W} {Q : z_P} {x : Int} : z_G d u 300 1492 ls (z_i x :: st) w Q ↔ z_G d u 300 1493 ls st w Q := z_gun ((zF300_24 1492 (by decide)).trans rfl)
set_option maxRecDepth 100000 in
theorem g300_1492r {d : Nat} {u : Nat × Nat} {ls st : List z_V} {w : z_W} {Q : z_P} {k : Nat} : z_G d u 300 1492 ls (z_r k :: st) w Q ↔ z_G d u 300 1493 ls st w Q := z_gun ((zF300_24 1492 (by decide)).trans rfl)
set_option maxRecDepth 100000 in
theorem g300_1493 {d : Nat} {u : Nat × Nat} {ls st : List z_V} {w : z_W} {Q : z_P} {o : Option Nat} {a0 a1 : z_V} : z_G d u 300 1493 (a0 :: a1 :: z_vr o :: ls) st w Q ↔ z_G d u 300 1494 (a0 :: a1 :: z_vr o :: ls) (z_vr o :: st) w Q := z_gun ((zF300_24 1493 (by decide)).trans rfl)
set_option maxRecDepth 100000 in
theorem g300_1493r {d : Nat} {u : Nat × Nat} {ls st : List z_V} {w : z_W} {Q : z_P} {k : Nat} {a0 a1 : z_V} : z_G d u 300 1493 (a0 :: a1 :: z_r k :: ls) st w Q ↔ z_G d u 300 1494 (a0 :: a1 :: z_r k :: ls) (z_r k :: st) w Q := z_gun ((zF300_24 1493 (by decide)).trans rfl)
set_option maxRecDepth 100000 in
theorem g300_1494 {d : Nat} {u : Nat × Nat} {ls st : List z_V} {w : z_W} {Q : z_P} {o : Option Nat} : z_G d u 300 1494 (z_vr o :: ls) st w Q ↔ z_G d u 300 1495 (z_vr o :: ls) (z_vr o :: st) w Q := z_gun ((zF300_24 1494 (by decide)).trans rfl)
set_option maxRecDepth 100000 in
theorem g300_1494r {d : Nat} {u : Nat × Nat} {ls st : List z_V} {w : z_W} {Q : z_P} {k : Nat} : z_G d u 300 1494 (z_r k :: ls) st w Q ↔ z_G d u 300 1495 (z_r k :: ls) (z_r k :: st) w Q := z_gun ((zF300_24 1494 (by decide)).trans rfl)
set_option maxRecDepth 100000 in
theorem g300_1495 {d : Nat} {u : Nat × Nat} {ls st : List z_V} {w : z_W} {Q : z_P} {z : Int} {a0 a1 a2 a3 : z_V} : z_G d u 300 1495 (a0 :: a1 :: a2 :: a3 :: z_i z :: ls) st w Q ↔ z_G d u 300 1497 (a0 :: a1 :: a2 :: a3 :: z_i z :: ls) (z_i z :: st) w Q := z_gun ((zF300_24 1495 (by decide)).trans rfl)
set_option maxRecDepth 100000 in
theorem g300_1497 {d : Nat} {u : Nat × Nat} {ls st : List z_V} {w : z_W} {Q : z_P} : z_G d u 300 1497 ls st w Q ↔ z_G d u 300 1498 ls (z_i (1) :: st) w Q := z_gun ((zF300_24 1497 (by decide)).trans rfl)
set_option maxRecDepth 100000 in
theorem g300_1498 {d : Nat} {u : Nat × Nat} {ls st : List z_V} {w : z_W} {Q : z_P} {x y : Int} : z_G d u 300 1498 ls (z_i y :: z_i x :: st) w Q ↔ z_G d u 300 1499 ls (z_i (z_add x y) :: st) w Q := z_gun ((zF300_24 1498 (by decide)).trans rfl)
set_option maxRecDepth 100000 in
theorem g300_1499 {d : Nat} {u : Nat × Nat} {ls st : List z_V} {w : z_W} {Q : z_P} {p : Nat} {i : Int} : z_G d u 300 1499 ls (z_i i :: z_r p :: st) w Q ↔ ((z_k w p = 100 ∨ z_k w p = 103) ∧ 0 ≤ i ∧ i < z_len w p ∧ (z_rg (z_I w p i) → z_G d u 300 1500 ls (z_i (z_I w p i) :: st) w Q)) := z_gun ((zF300_24 1499 (by decide)).trans rfl)
set_option maxRecDepth 100000 in
theorem g300_1500 {d : Nat} {u : Nat × Nat} {ls st : List z_V} {w : z_W} {Q : z_P} {o : Option Nat} : z_G d u 300 1500 (z_vr o :: ls) st w Q ↔ z_G d u 300 1501 (z_vr o :: ls) (z_vr o :: st) w Q := z_gun ((zF300_24 1500 (by decide)).trans rfl)
set_option maxRecDepth 100000 in
theorem g300_1500r {d : Nat} {u : Nat × Nat} {ls st : List z_V} {w : z_W} {Q : z_P} {k : Nat} : z_G d u 300 1500 (z_r k :: ls) st w Q ↔ z_G d u 300 1501 (z_r k :: ls) (z_r k :: st) w Q := z_gun ((zF300_24 1500 (by decide)).trans rfl)
set_option maxRecDepth 100000 in
theorem g300_1501 {d : Nat} {u : Nat × Nat} {ls st : List z_V} {w : z_W} {Q : z_P} {z : Int} {a0 a1 a2 a3 : z_V} : z_G d u 300 1501 (a0 :: a1 :: a2 :: a3 :: z_i z :: ls) st w Q ↔ z_G d u 300 1503 (a0 :: a1 :: a2 :: a3 :: z_i z :: ls) (z_i z :: st) w Q := z_gun ((zF300_24 1501 (by decide)).trans rfl)
set_option maxRecDepth 100000 in
theorem g300_1503 {d : Nat} {u : Nat × Nat} {ls st : List z_V} {w : z_W} {Q : z_P} : z_G d u 300 1503 ls st w Q ↔ z_G d u 300 1504 ls (z_i (2) :: st) w Q := z_gun ((zF300_24 1503 (by decide)).trans rfl)
set_option maxRecDepth 100000 in
theorem g300_1504 {d : Nat} {u : Nat × Nat} {ls st : List z_V} {w : z_W} {Q : z_P} {x y : Int} : z_G d u 300 1504 ls (z_i y :: z_i x :: st) w Q ↔ z_G d u 300 1505 ls (z_i (z_add x y) :: st) w Q := z_gun ((zF300_24 1504 (by decide)).trans rfl)
set_option maxRecDepth 100000 in
theorem g300_1505 {d : Nat} {u : Nat × Nat} {ls st : List z_V} {w : z_W} {Q : z_P} {p : Nat} {i : Int} : z_G d u 300 1505 ls (z_i i :: z_r p :: st) w Q ↔ ((z_k w p = 100 ∨ z_k w p = 103) ∧ 0 ≤ i ∧ i < z_len w p ∧ (z_rg (z_I w p i) → z_G d u 300 1506 ls (z_i (z_I w p i) :: st) w Q)) := z_gun ((zF300_24 1505 (by decide)).trans rfl)
set_option maxRecDepth 100000 in
theorem g300_1506 {d : Nat} {u : Nat × Nat} {ls st : List z_V} {w : z_W} {Q : z_P} {p : Nat} {x0 x1 : Int} : z_G (d + 1) u 300 1506 ls (z_i x1 :: z_i x0 :: z_r p :: st) w Q ↔ (z_k w p = 12 ∧ z_c8 st 8 = true ∧ z_G d (0, 0) 281 0 [z_r p, z_i x0, z_i x1, z_x, z_x] [] w (fun r w' => z_G (d + 1) u 300 1509 ls (r.toList ++ st) w' Q)) := z_gcaV (d := d) (m := 300) (pc := 1506) (m' := 281) (k := 3) (nL := 5) (nx := 1509) (ci := 12) (p := p) (u := u) (ls := ls) (st := st) (w := w) (Q := Q) (vs := [z_r p, z_i x0, z_i x1]) ((zF300_24 1506 (by decide)).trans rfl) rfl rfl
set_option maxRecDepth 100000 in
theorem g300_1509 {d : Nat} {u : Nat × Nat} {ls st : List z_V} {w : z_W} {Q : z_P} {x : Int} : z_G d u 300 1509 ls (z_i x :: st) w Q ↔ z_G d u 300 1510 ls st w Q := z_gun ((zF300_24 1509 (by decide)).trans rfl)
set_option maxRecDepth 100000 in
theorem g300_1509r {d : Nat} {u : Nat × Nat} {ls st : List z_V} {w : z_W} {Q : z_P} {k : Nat} : z_G d u 300 1509 ls (z_r k :: st) w Q ↔ z_G d u 300 1510 ls st w Q := z_gun ((zF300_24 1509 (by decide)).trans rfl)
set_option maxRecDepth 100000 in
theorem g300_1510 {d : Nat} {u : Nat × Nat} {ls st : List z_V} {w : z_W} {Q : z_P} : z_G d u 300 1510 ls st w Q ↔ z_G d u 300 1614 ls st w Q := z_gun ((zF300_24 1510 (by decide)).trans rfl)
set_option maxRecDepth 100000 in
theorem g300_1513 {d : Nat} {u : Nat × Nat} {ls st : List z_V} {w : z_W} {Q : z_P} {o : Option Nat} {a0 : z_V} : z_G d u 300 1513 (a0 :: z_vr o :: ls) st w Q ↔ z_G d u 300 1514 (a0 :: z_vr o :: ls) (z_vr o :: st) w Q := z_gun ((zF300_24 1513 (by decide)).trans rfl)
set_option maxRecDepth 100000 in
theorem g300_1513r {d : Nat} {u : Nat × Nat} {ls st : List z_V} {w : z_W} {Q : z_P} {k : Nat} {a0 : z_V} : z_G d u 300 1513 (a0 :: z_r k :: ls) st w Q ↔ z_G d u 300 1514 (a0 :: z_r k :: ls) (z_r k :: st) w Q := z_gun ((zF300_24 1513 (by decide)).trans rfl)
set_option maxRecDepth 100000 in
theorem g300_1514 {d : Nat} {u : Nat × Nat} {ls st : List z_V} {w : z_W} {Q : z_P} {o : Option Nat} : z_G d u 300 1514 (z_vr o :: ls) st w Q ↔ z_G d u 300 1515 (z_vr o :: ls) (z_vr o :: st) w Q := z_gun ((zF300_24 1514 (by decide)).trans rfl)
set_option maxRecDepth 100000 in
theorem g300_1514r {d : Nat} {u : Nat × Nat} {ls st : List z_V} {w : z_W} {Q : z_P} {k : Nat} : z_G d u 300 1514 (z_r k :: ls) st w Q ↔ z_G d u 300 1515 (z_r k :: ls) (z_r k :: st) w Q := z_gun ((zF300_24 1514 (by decide)).trans rfl)
set_option maxRecDepth 100000 in
theorem g300_1515 {d : Nat} {u : Nat × Nat} {ls st : List z_V} {w : z_W} {Q : z_P} {z : Int} {a0 a1 a2 a3 : z_V} : z_G d u 300 1515 (a0 :: a1 :: a2 :: a3 :: z_i z :: ls) st w Q ↔ z_G d u 300 1517 (a0 :: a1 :: a2 :: a3 :: z_i z :: ls) (z_i z :: st) w Q := z_gun ((zF300_24 1515 (by decide)).trans rfl)
set_option maxRecDepth 100000 in
theorem g300_1517 {d : Nat} {u : Nat × Nat} {ls st : List z_V} {w : z_W} {Q : z_P} : z_G d u 300 1517 ls st w Q ↔ z_G d u 300 1518 ls (z_i (1) :: st) w Q := z_gun ((zF300_24 1517 (by decide)).trans rfl)
set_option maxRecDepth 100000 in
theorem g300_1518 {d : Nat} {u : Nat × Nat} {ls st : List z_V} {w : z_W} {Q : z_P} {x y : Int} : z_G d u 300 1518 ls (z_i y :: z_i x :: st) w Q ↔ z_G d u 300 1519 ls (z_i (z_add x y) :: st) w Q := z_gun ((zF300_24 1518 (by decide)).trans rfl)
set_option maxRecDepth 100000 in
theorem g300_1519 {d : Nat} {u : Nat × Nat} {ls st : List z_V} {w : z_W} {Q : z_P} {p : Nat} {i : Int} : z_G d u 300 1519 ls (z_i i :: z_r p :: st) w Q ↔ ((z_k w p = 100 ∨ z_k w p = 103) ∧ 0 ≤ i ∧ i < z_len w p ∧ (z_rg (z_I w p i) → z_G d u 300 1520 ls (z_i (z_I w p i) :: st) w Q)) := z_gun ((zF300_24 1519 (by decide)).trans rfl)
set_option maxRecDepth 100000 in
theorem g300_1520 {d : Nat} {u : Nat × Nat} {ls st : List z_V} {w : z_W} {Q : z_P} {p : Nat} {x0 : Int} : z_G (d + 1) u 300 1520 ls (z_i x0 :: z_r p :: st) w Q ↔ (z_k w p = 11 ∧ z_c8 st 8 = true ∧ z_G d (0, 0) 159 0 [z_r p, z_i x0, z_x, z_x, z_x] [] w (fun r w' => z_G (d + 1) u 300 1523 ls (r.toList ++ st) w' Q)) := z_gcaV (d := d) (m := 300) (pc := 1520) (m' := 159) (k := 2) (nL := 5) (nx := 1523) (ci := 11) (p := p) (u := u) (ls := ls) (st := st) (w := w) (Q := Q) (vs := [z_r p, z_i x0]) ((zF300_24 1520 (by decide)).trans rfl) rfl rfl
set_option maxRecDepth 100000 in
theorem g300_1523 {d : Nat} {u : Nat × Nat} {ls st : List z_V} {w : z_W} {Q : z_P} {x : Int} : z_G d u 300 1523 ls (z_i x :: st) w Q ↔ z_G d u 300 1524 ls st w Q := z_gun ((zF300_24 1523 (by decide)).trans rfl)
set_option maxRecDepth 100000 in
theorem g300_1523r {d : Nat} {u : Nat × Nat} {ls st : List z_V} {w : z_W} {Q : z_P} {k : Nat} : z_G d u 300 1523 ls (z_r k :: st) w Q ↔ z_G d u 300 1524 ls st w Q := z_gun ((zF300_24 1523 (by decide)).trans rfl)
set_option maxRecDepth 100000 in
theorem g300_1524 {d : Nat} {u : Nat × Nat} {ls st : List z_V} {w : z_W} {Q : z_P} {o : Option Nat} {a0 a1 : z_V} : z_G d u 300 1524 (a0 :: a1 :: z_vr o :: ls) st w Q ↔ z_G d u 300 1525 (a0 :: a1 :: z_vr o :: ls) (z_vr o :: st) w Q := z_gun ((zF300_24 1524 (by decide)).trans rfl)
set_option maxRecDepth 100000 in
theorem g300_1524r {d : Nat} {u : Nat × Nat} {ls st : List z_V} {w : z_W} {Q : z_P} {k : Nat} {a0 a1 : z_V} : z_G d u 300 1524 (a0 :: a1 :: z_r k :: ls) st w Q ↔ z_G d u 300 1525 (a0 :: a1 :: z_r k :: ls) (z_r k :: st) w Q := z_gun ((zF300_24 1524 (by decide)).trans rfl)
set_option maxRecDepth 100000 in
theorem g300_1525 {d : Nat} {u : Nat × Nat} {ls st : List z_V} {w : z_W} {Q : z_P} {o : Option Nat} : z_G d u 300 1525 (z_vr o :: ls) st w Q ↔ z_G d u 300 1526 (z_vr o :: ls) (z_vr o :: st) w Q := z_gun ((zF300_24 1525 (by decide)).trans rfl)
set_option maxRecDepth 100000 in
theorem g300_1525r {d : Nat} {u : Nat × Nat} {ls st : List z_V} {w : z_W} {Q : z_P} {k : Nat} : z_G d u 300 1525 (z_r k :: ls) st w Q ↔ z_G d u 300 1526 (z_r k :: ls) (z_r k :: st) w Q := z_gun ((zF300_24 1525 (by decide)).trans rfl)
set_option maxRecDepth 100000 in
theorem g300_1526 {d : Nat} {u : Nat × Nat} {ls st : List z_V} {w : z_W} {Q : z_P} {z : Int} {a0 a1 a2 a3 : z_V} : z_G d u 300 1526 (a0 :: a1 :: a2 :: a3 :: z_i z :: ls) st w Q ↔ z_G d u 300 1528 (a0 :: a1 :: a2 :: a3 :: z_i z :: ls) (z_i z :: st) w Q := z_gun ((zF300_24 1526 (by decide)).trans rfl)
set_option maxRecDepth 100000 in
theorem g300_1528 {d : Nat} {u : Nat × Nat} {ls st : List z_V} {w : z_W} {Q : z_P} : z_G d u 300 1528 ls st w Q ↔ z_G d u 300 1529 ls (z_i (1) :: st) w Q := z_gun ((zF300_24 1528 (by decide)).trans rfl)
set_option maxRecDepth 100000 in
theorem g300_1529 {d : Nat} {u : Nat × Nat} {ls st : List z_V} {w : z_W} {Q : z_P} {x y : Int} : z_G d u 300 1529 ls (z_i y :: z_i x :: st) w Q ↔ z_G d u 300 1530 ls (z_i (z_add x y) :: st) w Q := z_gun ((zF300_24 1529 (by decide)).trans rfl)
set_option maxRecDepth 100000 in
theorem g300_1530 {d : Nat} {u : Nat × Nat} {ls st : List z_V} {w : z_W} {Q : z_P} {p : Nat} {i : Int} : z_G d u 300 1530 ls (z_i i :: z_r p :: st) w Q ↔ ((z_k w p = 100 ∨ z_k w p = 103) ∧ 0 ≤ i ∧ i < z_len w p ∧ (z_rg (z_I w p i) → z_G d u 300 1531 ls (z_i (z_I w p i) :: st) w Q)) := z_gun ((zF300_24 1530 (by decide)).trans rfl)
set_option maxRecDepth 100000 in
theorem g300_1531 {d : Nat} {u : Nat × Nat} {ls st : List z_V} {w : z_W} {Q : z_P} {p : Nat} {x0 : Int} : z_G (d + 1) u 300 1531 ls (z_i x0 :: z_r p :: st) w Q ↔ (z_k w p = 12 ∧ z_c8 st 8 = true ∧ z_G d (0, 0) 282 0 [z_r p, z_i x0] [] w (fun r w' => z_G (d + 1) u 300 1534 ls (r.toList ++ st) w' Q)) := z_gcaV (d := d) (m := 300) (pc := 1531) (m' := 282) (k := 2) (nL := 2) (nx := 1534) (ci := 12) (p := p) (u := u) (ls := ls) (st := st) (w := w) (Q := Q) (vs := [z_r p, z_i x0]) ((zF300_24 1531 (by decide)).trans rfl) rfl rfl
set_option maxRecDepth 100000 in
theorem g300_1534 {d : Nat} {u : Nat × Nat} {ls st : List z_V} {w : z_W} {Q : z_P} {x : Int} : z_G d u 300 1534 ls (z_i x :: st) w Q ↔ z_G d u 300 1535 ls st w Q := z_gun ((zF300_24 1534 (by decide)).trans rfl)
set_option maxRecDepth 100000 in
theorem g300_1534r {d : Nat} {u : Nat × Nat} {ls st : List z_V} {w : z_W} {Q : z_P} {k : Nat} : z_G d u 300 1534 ls (z_r k :: st) w Q ↔ z_G d u 300 1535 ls st w Q := z_gun ((zF300_24 1534 (by decide)).trans rfl)
set_option maxRecDepth 100000 in
theorem g300_1535 {d : Nat} {u : Nat × Nat} {ls st : List z_V} {w : z_W} {Q : z_P} : z_G d u 300 1535 ls st w Q ↔ z_G d u 300 1614 ls st w Q := z_gun ((zF300_24 1535 (by decide)).trans rfl)
set_option maxRecDepth 100000 in
theorem g300_1538 {d : Nat} {u : Nat × Nat} {ls st : List z_V} {w : z_W} {Q : z_P} {o : Option Nat} {a0 : z_V} : z_G d u 300 1538 (a0 :: z_vr o :: ls) st w Q ↔ z_G d u 300 1539 (a0 :: z_vr o :: ls) (z_vr o :: st) w Q := z_gun ((zF300_24 1538 (by decide)).trans rfl)
set_option maxRecDepth 100000 in
theorem g300_1538r {d : Nat} {u : Nat × Nat} {ls st : List z_V} {w : z_W} {Q : z_P} {k : Nat} {a0 : z_V} : z_G d u 300 1538 (a0 :: z_r k :: ls) st w Q ↔ z_G d u 300 1539 (a0 :: z_r k :: ls) (z_r k :: st) w Q := z_gun ((zF300_24 1538 (by decide)).trans rfl)
set_option maxRecDepth 100000 in
theorem g300_1539 {d : Nat} {u : Nat × Nat} {ls st : List z_V} {w : z_W} {Q : z_P} {o : Option Nat} : z_G d u 300 1539 (z_vr o :: ls) st w Q ↔ z_G d u 300 1540 (z_vr o :: ls) (z_vr o :: st) w Q := z_gun ((zF300_24 1539 (by decide)).trans rfl)
set_option maxRecDepth 100000 in
theorem g300_1539r {d : Nat} {u : Nat × Nat} {ls st : List z_V} {w : z_W} {Q : z_P} {k : Nat} : z_G d u 300 1539 (z_r k :: ls) st w Q ↔ z_G d u 300 1540 (z_r k :: ls) (z_r k :: st) w Q := z_gun ((zF300_24 1539 (by decide)).trans rfl)
set_option maxRecDepth 100000 in
theorem g300_1540 {d : Nat} {u : Nat × Nat} {ls st : List z_V} {w : z_W} {Q : z_P} {z : Int} {a0 a1 a2 a3 : z_V} : z_G d u 300 1540 (a0 :: a1 :: a2 :: a3 :: z_i z :: ls) st w Q ↔ z_G d u 300 1542 (a0 :: a1 :: a2 :: a3 :: z_i z :: ls) (z_i z :: st) w Q := z_gun ((zF300_25 1540 (by decide)).trans rfl)
set_option maxRecDepth 100000 in
theorem g300_1542 {d : Nat} {u : Nat × Nat} {ls st : List z_V} {w : z_W} {Q : z_P} : z_G d u 300 1542 ls st w Q ↔ z_G d u 300 1543 ls (z_i (1) :: st) w Q := z_gun ((zF300_25 1542 (by decide)).trans rfl)
set_option maxRecDepth 100000 in
theorem g300_1543 {d : Nat} {u : Nat × Nat} {ls st : List z_V} {w : z_W} {Q : z_P} {x y : Int} : z_G d u 300 1543 ls (z_i y :: z_i x :: st) w Q ↔ z_G d u 300 1544 ls (z_i (z_add x y) :: st) w Q := z_gun ((zF300_25 1543 (by decide)).trans rfl)
set_option maxRecDepth 100000 in
theorem g300_1544 {d : Nat} {u : Nat × Nat} {ls st : List z_V} {w : z_W} {Q : z_P} {p : Nat} {i : Int} : z_G d u 300 1544 ls (z_i i :: z_r p :: st) w Q ↔ ((z_k w p = 100 ∨ z_k w p = 103) ∧ 0 ≤ i ∧ i < z_len w p ∧ (z_rg (z_I w p i) → z_G d u 300 1545 ls (z_i (z_I w p i) :: st) w Q)) := z_gun ((zF300_25 1544 (by decide)).trans rfl)
set_option maxRecDepth 100000 in
theorem g300_1545 {d : Nat} {u : Nat × Nat} {ls st : List z_V} {w : z_W} {Q : z_P} {p : Nat} {x0 : Int} : z_G (d + 1) u 300 1545 ls (z_i x0 :: z_r p :: st) w Q ↔ (z_k w p = 11 ∧ z_c8 st 8 = true ∧ z_G d (0, 0) 162 0 [z_r p, z_i x0] [] w (fun r w' => z_G (d + 1) u 300 1548 ls (r.toList ++ st) w' Q)) := z_gcaV (d := d) (m := 300) (pc := 1545) (m' := 162) (k := 2) (nL := 2) (nx := 1548) (ci := 11) (p := p) (u := u) (ls := ls) (st := st) (w := w) (Q := Q) (vs := [z_r p, z_i x0]) ((zF300_25 1545 (by decide)).trans rfl) rfl rfl
set_option maxRecDepth 100000 in
theorem g300_1548 {d : Nat} {u : Nat × Nat} {ls st : List z_V} {w : z_W} {Q : z_P} {x : Int} : z_G d u 300 1548 ls (z_i x :: st) w Q ↔ z_G d u 300 1549 ls st w Q := z_gun ((zF300_25 1548 (by decide)).trans rfl)
set_option maxRecDepth 100000 in
theorem g300_1548r {d : Nat} {u : Nat × Nat} {ls st : List z_V} {w : z_W} {Q : z_P} {k : Nat} : z_G d u 300 1548 ls (z_r k :: st) w Q ↔ z_G d u 300 1549 ls st w Q := z_gun ((zF300_25 1548 (by decide)).trans rfl)
set_option maxRecDepth 100000 in
theorem g300_1549 {d : Nat} {u : Nat × Nat} {ls st : List z_V} {w : z_W} {Q : z_P} {o : Option Nat} {a0 a1 : z_V} : z_G d u 300 1549 (a0 :: a1 :: z_vr o :: ls) st w Q ↔ z_G d u 300 1550 (a0 :: a1 :: z_vr o :: ls) (z_vr o :: st) w Q := z_gun ((zF300_25 1549 (by decide)).trans rfl)
set_option maxRecDepth 100000 in
theorem g300_1549r {d : Nat} {u : Nat × Nat} {ls st : List z_V} {w : z_W} {Q : z_P} {k : Nat} {a0 a1 : z_V} : z_G d u 300 1549 (a0 :: a1 :: z_r k :: ls) st w Q ↔ z_G d u 300 1550 (a0 :: a1 :: z_r k :: ls) (z_r k :: st) w Q := z_gun ((zF300_25 1549 (by decide)).trans rfl)
set_option maxRecDepth 100000 in
theorem g300_1550 {d : Nat} {u : Nat × Nat} {ls st : List z_V} {w : z_W} {Q : z_P} {o : Option Nat} : z_G d u 300 1550 (z_vr o :: ls) st w Q ↔ z_G d u 300 1551 (z_vr o :: ls) (z_vr o :: st) w Q := z_gun ((zF300_25 1550 (by decide)).trans rfl)
set_option maxRecDepth 100000 in
theorem g300_1550r {d : Nat} {u : Nat × Nat} {ls st : List z_V} {w : z_W} {Q : z_P} {k : Nat} : z_G d u 300 1550 (z_r k :: ls) st w Q ↔ z_G d u 300 1551 (z_r k :: ls) (z_r k :: st) w Q := z_gun ((zF300_25 1550 (by decide)).trans rfl)
set_option maxRecDepth 100000 in
theorem g300_1551 {d : Nat} {u : Nat × Nat} {ls st : List z_V} {w : z_W} {Q : z_P} {z : Int} {a0 a1 a2 a3 : z_V} : z_G d u 300 1551 (a0 :: a1 :: a2 :: a3 :: z_i z :: ls) st w Q ↔ z_G d u 300 1553 (a0 :: a1 :: a2 :: a3 :: z_i z :: ls) (z_i z :: st) w Q := z_gun ((zF300_25 1551 (by decide)).trans rfl)
set_option maxRecDepth 100000 in
theorem g300_1553 {d : Nat} {u : Nat × Nat} {ls st : List z_V} {w : z_W} {Q : z_P} : z_G d u 300 1553 ls st w Q ↔ z_G d u 300 1554 ls (z_i (1) :: st) w Q := z_gun ((zF300_25 1553 (by decide)).trans rfl)
set_option maxRecDepth 100000 in
theorem g300_1554 {d : Nat} {u : Nat × Nat} {ls st : List z_V} {w : z_W} {Q : z_P} {x y : Int} : z_G d u 300 1554 ls (z_i y :: z_i x :: st) w Q ↔ z_G d u 300 1555 ls (z_i (z_add x y) :: st) w Q := z_gun ((zF300_25 1554 (by decide)).trans rfl)
set_option maxRecDepth 100000 in
theorem g300_1555 {d : Nat} {u : Nat × Nat} {ls st : List z_V} {w : z_W} {Q : z_P} {p : Nat} {i : Int} : z_G d u 300 1555 ls (z_i i :: z_r p :: st) w Q ↔ ((z_k w p = 100 ∨ z_k w p = 103) ∧ 0 ≤ i ∧ i < z_len w p ∧ (z_rg (z_I w p i) → z_G d u 300 1556 ls (z_i (z_I w p i) :: st) w Q)) := z_gun ((zF300_25 1555 (by decide)).trans rfl)
set_option maxRecDepth 100000 in
theorem g300_1556 {d : Nat} {u : Nat × Nat} {ls st : List z_V} {w : z_W} {Q : z_P} {p : Nat} {x0 : Int} : z_G (d + 1) u 300 1556 ls (z_i x0 :: z_r p :: st) w Q ↔ (z_k w p = 12 ∧ z_c8 st 8 = true ∧ z_G d (0, 0) 290 0 [z_r p, z_i x0] [] w (fun r w' => z_G (d + 1) u 300 1559 ls (r.toList ++ st) w' Q)) := z_gcaV (d := d) (m := 300) (pc := 1556) (m' := 290) (k := 2) (nL := 2) (nx := 1559) (ci := 12) (p := p) (u := u) (ls := ls) (st := st) (w := w) (Q := Q) (vs := [z_r p, z_i x0]) ((zF300_25 1556 (by decide)).trans rfl) rfl rfl
set_option maxRecDepth 100000 in
theorem g300_1559 {d : Nat} {u : Nat × Nat} {ls st : List z_V} {w : z_W} {Q : z_P} {x : Int} : z_G d u 300 1559 ls (z_i x :: st) w Q ↔ z_G d u 300 1560 ls st w Q := z_gun ((zF300_25 1559 (by decide)).trans rfl)
set_option maxRecDepth 100000 in
theorem g300_1559r {d : Nat} {u : Nat × Nat} {ls st : List z_V} {w : z_W} {Q : z_P} {k : Nat} : z_G d u 300 1559 ls (z_r k :: st) w Q ↔ z_G d u 300 1560 ls st w Q := z_gun ((zF300_25 1559 (by decide)).trans rfl)
set_option maxRecDepth 100000 in
theorem g300_1560 {d : Nat} {u : Nat × Nat} {ls st : List z_V} {w : z_W} {Q : z_P} : z_G d u 300 1560 ls st w Q ↔ z_G d u 300 1614 ls st w Q := z_gun ((zF300_25 1560 (by decide)).trans rfl)
set_option maxRecDepth 100000 in
theorem g300_1563 {d : Nat} {u : Nat × Nat} {ls st : List z_V} {w : z_W} {Q : z_P} {o : Option Nat} {a0 : z_V} : z_G d u 300 1563 (a0 :: z_vr o :: ls) st w Q ↔ z_G d u 300 1564 (a0 :: z_vr o :: ls) (z_vr o :: st) w Q := z_gun ((zF300_25 1563 (by decide)).trans rfl)
set_option maxRecDepth 100000 in
theorem g300_1563r {d : Nat} {u : Nat × Nat} {ls st : List z_V} {w : z_W} {Q : z_P} {k : Nat} {a0 : z_V} : z_G d u 300 1563 (a0 :: z_r k :: ls) st w Q ↔ z_G d u 300 1564 (a0 :: z_r k :: ls) (z_r k :: st) w Q := z_gun ((zF300_25 1563 (by decide)).trans rfl)
set_option maxRecDepth 100000 in
theorem g300_1564 {d : Nat} {u : Nat × Nat} {ls st : List z_V} {w : z_W} {Q : z_P} {p : Nat} : z_G (d + 1) u 300 1564 ls (z_r p :: st) w Q ↔ (z_k w p = 11 ∧ z_c8 st 8 = true ∧ z_G d (0, 0) 163 0 [z_r p] [] w (fun r w' => z_G (d + 1) u 300 1567 ls (r.toList ++ st) w' Q)) := z_gcaV (d := d) (m := 300) (pc := 1564) (m' := 163) (k := 1) (nL := 1) (nx := 1567) (ci := 11) (p := p) (u := u) (ls := ls) (st := st) (w := w) (Q := Q) (vs := [z_r p]) ((zF300_25 1564 (by decide)).trans rfl) rfl rfl
set_option maxRecDepth 100000 in
theorem g300_1567 {d : Nat} {u : Nat × Nat} {ls st : List z_V} {w : z_W} {Q : z_P} {x : Int} : z_G d u 300 1567 ls (z_i x :: st) w Q ↔ z_G d u 300 1568 ls st w Q := z_gun ((zF300_25 1567 (by decide)).trans rfl)
set_option maxRecDepth 100000 in
theorem g300_1567r {d : Nat} {u : Nat × Nat} {ls st : List z_V} {w : z_W} {Q : z_P} {k : Nat} : z_G d u 300 1567 ls (z_r k :: st) w Q ↔ z_G d u 300 1568 ls st w Q := z_gun ((zF300_25 1567 (by decide)).trans rfl)
set_option maxRecDepth 100000 in
theorem g300_1568 {d : Nat} {u : Nat × Nat} {ls st : List z_V} {w : z_W} {Q : z_P} {o : Option Nat} {a0 a1 : z_V} : z_G d u 300 1568 (a0 :: a1 :: z_vr o :: ls) st w Q ↔ z_G d u 300 1569 (a0 :: a1 :: z_vr o :: ls) (z_vr o :: st) w Q := z_gun ((zF300_25 1568 (by decide)).trans rfl)
set_option maxRecDepth 100000 in
theorem g300_1568r {d : Nat} {u : Nat × Nat} {ls st : List z_V} {w : z_W} {Q : z_P} {k : Nat} {a0 a1 : z_V} : z_G d u 300 1568 (a0 :: a1 :: z_r k :: ls) st w Q ↔ z_G d u 300 1569 (a0 :: a1 :: z_r k :: ls) (z_r k :: st) w Q := z_gun ((zF300_25 1568 (by decide)).trans rfl)
set_option maxRecDepth 100000 in
theorem g300_1569 {d : Nat} {u : Nat × Nat} {ls st : List z_V} {w : z_W} {Q : z_P} {p : Nat} : z_G (d + 1) u 300 1569 ls (z_r p :: st) w Q ↔ (z_k w p = 12 ∧ z_c8 st 8 = true ∧ z_G d (0, 0) 291 0 [z_r p, z_x] [] w (fun r w' => z_G (d + 1) u 300 1572 ls (r.toList ++ st) w' Q)) := z_gcaV (d := d) (m := 300) (pc := 1569) (m' := 291) (k := 1) (nL := 2) (nx := 1572) (ci := 12) (p := p) (u := u) (ls := ls) (st := st) (w := w) (Q := Q) (vs := [z_r p]) ((zF300_25 1569 (by decide)).trans rfl) rfl rfl
set_option maxRecDepth 100000 in
theorem g300_1572 {d : Nat} {u : Nat × Nat} {ls st : List z_V} {w : z_W} {Q : z_P} {x : Int} : z_G d u 300 1572 ls (z_i x :: st) w Q ↔ z_G d u 300 1573 ls st w Q := z_gun ((zF300_25 1572 (by decide)).trans rfl)
set_option maxRecDepth 100000 in
theorem g300_1572r {d : Nat} {u : Nat × Nat} {ls st : List z_V} {w : z_W} {Q : z_P} {k : Nat} : z_G d u 300 1572 ls (z_r k :: st) w Q ↔ z_G d u 300 1573 ls st w Q := z_gun ((zF300_25 1572 (by decide)).trans rfl)
set_option maxRecDepth 100000 in
theorem g300_1573 {d : Nat} {u : Nat × Nat} {ls st : List z_V} {w : z_W} {Q : z_P} : z_G d u 300 1573 ls st w Q ↔ z_G d u 300 1614 ls st w Q := z_gun ((zF300_25 1573 (by decide)).trans rfl)
set_option maxRecDepth 100000 in
theorem g300_1576 {d : Nat} {u : Nat × Nat} {ls st : List z_V} {w : z_W} {Q : z_P} {o : Option Nat} {a0 : z_V} : z_G d u 300 1576 (a0 :: z_vr o :: ls) st w Q ↔ z_G d u 300 1577 (a0 :: z_vr o :: ls) (z_vr o :: st) w Q := z_gun ((zF300_25 1576 (by decide)).trans rfl)
set_option maxRecDepth 100000 in
theorem g300_1576r {d : Nat} {u : Nat × Nat} {ls st : List z_V} {w : z_W} {Q : z_P} {k : Nat} {a0 : z_V} : z_G d u 300 1576 (a0 :: z_r k :: ls) st w Q ↔ z_G d u 300 1577 (a0 :: z_r k :: ls) (z_r k :: st) w Q := z_gun ((zF300_25 1576 (by decide)).trans rfl)
set_option maxRecDepth 100000 in
theorem g300_1577 {d : Nat} {u : Nat × Nat} {ls st : List z_V} {w : z_W} {Q : z_P} {p : Nat} : z_G (d + 1) u 300 1577 ls (z_r p :: st) w Q ↔ (z_k w p = 11 ∧ z_c8 st 8 = true ∧ z_G d (0, 0) 164 0 [z_r p] [] w (fun r w' => z_G (d + 1) u 300 1580 ls (r.toList ++ st) w' Q)) := z_gcaV (d := d) (m := 300) (pc := 1577) (m' := 164) (k := 1) (nL := 1) (nx := 1580) (ci := 11) (p := p) (u := u) (ls := ls) (st := st) (w := w) (Q := Q) (vs := [z_r p]) ((zF300_25 1577 (by decide)).trans rfl) rfl rfl
set_option maxRecDepth 100000 in
theorem g300_1580 {d : Nat} {u : Nat × Nat} {ls st : List z_V} {w : z_W} {Q : z_P} {x : Int} : z_G d u 300 1580 ls (z_i x :: st) w Q ↔ z_G d u 300 1581 ls st w Q := z_gun ((zF300_25 1580 (by decide)).trans rfl)
set_option maxRecDepth 100000 in
theorem g300_1580r {d : Nat} {u : Nat × Nat} {ls st : List z_V} {w : z_W} {Q : z_P} {k : Nat} : z_G d u 300 1580 ls (z_r k :: st) w Q ↔ z_G d u 300 1581 ls st w Q := z_gun ((zF300_25 1580 (by decide)).trans rfl)
set_option maxRecDepth 100000 in
theorem g300_1581 {d : Nat} {u : Nat × Nat} {ls st : List z_V} {w : z_W} {Q : z_P} {o : Option Nat} {a0 a1 : z_V} : z_G d u 300 1581 (a0 :: a1 :: z_vr o :: ls) st w Q ↔ z_G d u 300 1582 (a0 :: a1 :: z_vr o :: ls) (z_vr o :: st) w Q := z_gun ((zF300_25 1581 (by decide)).trans rfl)
set_option maxRecDepth 100000 in
theorem g300_1581r {d : Nat} {u : Nat × Nat} {ls st : List z_V} {w : z_W} {Q : z_P} {k : Nat} {a0 a1 : z_V} : z_G d u 300 1581 (a0 :: a1 :: z_r k :: ls) st w Q ↔ z_G d u 300 1582 (a0 :: a1 :: z_r k :: ls) (z_r k :: st) w Q := z_gun ((zF300_25 1581 (by decide)).trans rfl)
set_option maxRecDepth 100000 in
theorem g300_1582 {d : Nat} {u : Nat × Nat} {ls st : List z_V} {w : z_W} {Q : z_P} {p : Nat} : z_G (d + 1) u 300 1582 ls (z_r p :: st) w Q ↔ (z_k w p = 12 ∧ z_c8 st 8 = true ∧ z_G d (0, 0) 292 0 [z_r p, z_x] [] w (fun r w' => z_G (d + 1) u 300 1585 ls (r.toList ++ st) w' Q)) := z_gcaV (d := d) (m := 300) (pc := 1582) (m' := 292) (k := 1) (nL := 2) (nx := 1585) (ci := 12) (p := p) (u := u) (ls := ls) (st := st) (w := w) (Q := Q) (vs := [z_r p]) ((zF300_25 1582 (by decide)).trans rfl) rfl rfl
set_option maxRecDepth 100000 in
theorem g300_1585 {d : Nat} {u : Nat × Nat} {ls st : List z_V} {w : z_W} {Q : z_P} {x : Int} : z_G d u 300 1585 ls (z_i x :: st) w Q ↔ z_G d u 300 1586 ls st w Q := z_gun ((zF300_25 1585 (by decide)).trans rfl)
set_option maxRecDepth 100000 in
theorem g300_1585r {d : Nat} {u : Nat × Nat} {ls st : List z_V} {w : z_W} {Q : z_P} {k : Nat} : z_G d u 300 1585 ls (z_r k :: st) w Q ↔ z_G d u 300 1586 ls st w Q := z_gun ((zF300_25 1585 (by decide)).trans rfl)
set_option maxRecDepth 100000 in
theorem g300_1586 {d : Nat} {u : Nat × Nat} {ls st : List z_V} {w : z_W} {Q : z_P} : z_G d u 300 1586 ls st w Q ↔ z_G d u 300 1614 ls st w Q := z_gun ((zF300_25 1586 (by decide)).trans rfl)
set_option maxRecDepth 100000 in
theorem g300_1589 {d : Nat} {u : Nat × Nat} {ls st : List z_V} {w : z_W} {Q : z_P} {o : Option Nat} {a0 : z_V} : z_G d u 300 1589 (a0 :: z_vr o :: ls) st w Q ↔ z_G d u 300 1590 (a0 :: z_vr o :: ls) (z_vr o :: st) w Q := z_gun ((zF300_25 1589 (by decide)).trans rfl)
set_option maxRecDepth 100000 in
theorem g300_1589r {d : Nat} {u : Nat × Nat} {ls st : List z_V} {w : z_W} {Q : z_P} {k : Nat} {a0 : z_V} : z_G d u 300 1589 (a0 :: z_r k :: ls) st w Q ↔ z_G d u 300 1590 (a0 :: z_r k :: ls) (z_r k :: st) w Q := z_gun ((zF300_25 1589 (by decide)).trans rfl)
set_option maxRecDepth 100000 in
theorem g300_1590 {d : Nat} {u : Nat × Nat} {ls st : List z_V} {w : z_W} {Q : z_P} {o : Option Nat} : z_G d u 300 1590 (z_vr o :: ls) st w Q ↔ z_G d u 300 1591 (z_vr o :: ls) (z_vr o :: st) w Q := z_gun ((zF300_25 1590 (by decide)).trans rfl)
set_option maxRecDepth 100000 in
theorem g300_1590r {d : Nat} {u : Nat × Nat} {ls st : List z_V} {w : z_W} {Q : z_P} {k : Nat} : z_G d u 300 1590 (z_r k :: ls) st w Q ↔ z_G d u 300 1591 (z_r k :: ls) (z_r k :: st) w Q := z_gun ((zF300_25 1590 (by decide)).trans rfl)
set_option maxRecDepth 100000 in
theorem g300_1591 {d : Nat} {u : Nat × Nat} {ls st : List z_V} {w : z_W} {Q : z_P} {z : Int} {a0 a1 a2 a3 : z_V} : z_G d u 300 1591 (a0 :: a1 :: a2 :: a3 :: z_i z :: ls) st w Q ↔ z_G d u 300 1593 (a0 :: a1 :: a2 :: a3 :: z_i z :: ls) (z_i z :: st) w Q := z_gun ((zF300_25 1591 (by decide)).trans rfl)
set_option maxRecDepth 100000 in
theorem g300_1593 {d : Nat} {u : Nat × Nat} {ls st : List z_V} {w : z_W} {Q : z_P} : z_G d u 300 1593 ls st w Q ↔ z_G d u 300 1594 ls (z_i (1) :: st) w Q := z_gun ((zF300_25 1593 (by decide)).trans rfl)
set_option maxRecDepth 100000 in
theorem g300_1594 {d : Nat} {u : Nat × Nat} {ls st : List z_V} {w : z_W} {Q : z_P} {x y : Int} : z_G d u 300 1594 ls (z_i y :: z_i x :: st) w Q ↔ z_G d u 300 1595 ls (z_i (z_add x y) :: st) w Q := z_gun ((zF300_25 1594 (by decide)).trans rfl)
set_option maxRecDepth 100000 in
theorem g300_1595 {d : Nat} {u : Nat × Nat} {ls st : List z_V} {w : z_W} {Q : z_P} {p : Nat} {i : Int} : z_G d u 300 1595 ls (z_i i :: z_r p :: st) w Q ↔ ((z_k w p = 100 ∨ z_k w p = 103) ∧ 0 ≤ i ∧ i < z_len w p ∧ (z_rg (z_I w p i) → z_G d u 300 1596 ls (z_i (z_I w p i) :: st) w Q)) := z_gun ((zF300_25 1595 (by decide)).trans rfl)
set_option maxRecDepth 100000 in
theorem g300_1596 {d : Nat} {u : Nat × Nat} {ls st : List z_V} {w : z_W} {Q : z_P} {p : Nat} {x0 : Int} : z_G (d + 1) u 300 1596 ls (z_i x0 :: z_r p :: st) w Q ↔ (z_k w p = 11 ∧ z_c8 st 8 = true ∧ z_G d (0, 0) 165 0 [z_r p, z_i x0] [] w (fun r w' => z_G (d + 1) u 300 1599 ls (r.toList ++ st) w' Q)) := z_gcaV (d := d) (m := 300) (pc := 1596) (m' := 165) (k := 2) (nL := 2) (nx := 1599) (ci := 11) (p := p) (u := u) (ls := ls) (st := st) (w := w) (Q := Q) (vs := [z_r p, z_i x0]) ((zF300_25 1596 (by decide)).trans rfl) rfl rfl
set_option maxRecDepth 100000 in
theorem g300_1599 {d : Nat} {u : Nat × Nat} {ls st : List z_V} {w : z_W} {Q : z_P} {x : Int} : z_G d u 300 1599 ls (z_i x :: st) w Q ↔ z_G d u 300 1600 ls st w Q := z_gun ((zF300_25 1599 (by decide)).trans rfl)
set_option maxRecDepth 100000 in
theorem g300_1599r {d : Nat} {u : Nat × Nat} {ls st : List z_V} {w : z_W} {Q : z_P} {k : Nat} : z_G d u 300 1599 ls (z_r k :: st) w Q ↔ z_G d u 300 1600 ls st w Q := z_gun ((zF300_25 1599 (by decide)).trans rfl)
set_option maxRecDepth 100000 in
theorem g300_1600 {d : Nat} {u : Nat × Nat} {ls st : List z_V} {w : z_W} {Q : z_P} {o : Option Nat} {a0 a1 : z_V} : z_G d u 300 1600 (a0 :: a1 :: z_vr o :: ls) st w Q ↔ z_G d u 300 1601 (a0 :: a1 :: z_vr o :: ls) (z_vr o :: st) w Q := z_gun ((zF300_25 1600 (by decide)).trans rfl)
set_option maxRecDepth 100000 in
theorem g300_1600r {d : Nat} {u : Nat × Nat} {ls st : List z_V} {w : z_W} {Q : z_P} {k : Nat} {a0 a1 : z_V} : z_G d u 300 1600 (a0 :: a1 :: z_r k :: ls) st w Q ↔ z_G d u 300 1601 (a0 :: a1 :: z_r k :: ls) (z_r k :: st) w Q := z_gun ((zF300_25 1600 (by decide)).trans rfl)
set_option maxRecDepth 100000 in
theorem g300_1601 {d : Nat} {u : Nat × Nat} {ls st : List z_V} {w : z_W} {Q : z_P} {o : Option Nat} : z_G d u 300 1601 (z_vr o :: ls) st w Q ↔ z_G d u 300 1602 (z_vr o :: ls) (z_vr o :: st) w Q := z_gun ((zF300_25 1601 (by decide)).trans rfl)
set_option maxRecDepth 100000 in
theorem g300_1601r {d : Nat} {u : Nat × Nat} {ls st : List z_V} {w : z_W} {Q : z_P} {k : Nat} : z_G d u 300 1601 (z_r k :: ls) st w Q ↔ z_G d u 300 1602 (z_r k :: ls) (z_r k :: st) w Q := z_gun ((zF300_25 1601 (by decide)).trans rfl)
set_option maxRecDepth 100000 in
theorem g300_1602 {d : Nat} {u : Nat × Nat} {ls st : List z_V} {w : z_W} {Q : z_P} {z : Int} {a0 a1 a2 a3 : z_V} : z_G d u 300 1602 (a0 :: a1 :: a2 :: a3 :: z_i z :: ls) st w Q ↔ z_G d u 300 1604 (a0 :: a1 :: a2 :: a3 :: z_i z :: ls) (z_i z :: st) w Q := z_gun ((zF300_25 1602 (by decide)).trans rfl)
set_option maxRecDepth 100000 in
theorem g300_1604 {d : Nat} {u : Nat × Nat} {ls st : List z_V} {w : z_W} {Q : z_P} : z_G d u 300 1604 ls st w Q ↔ z_G d u 300 1605 ls (z_i (1) :: st) w Q := z_gun ((zF300_26 1604 (by decide)).trans rfl)
set_option maxRecDepth 100000 in
theorem g300_1605 {d : Nat} {u : Nat × Nat} {ls st : List z_V} {w : z_W} {Q : z_P} {x y : Int} : z_G d u 300 1605 ls (z_i y :: z_i x :: st) w Q ↔ z_G d u 300 1606 ls (z_i (z_add x y) :: st) w Q := z_gun ((zF300_26 1605 (by decide)).trans rfl)
set_option maxRecDepth 100000 in
theorem g300_1606 {d : Nat} {u : Nat × Nat} {ls st : List z_V} {w : z_W} {Q : z_P} {p : Nat} {i : Int} : z_G d u 300 1606 ls (z_i i :: z_r p :: st) w Q ↔ ((z_k w p = 100 ∨ z_k w p = 103) ∧ 0 ≤ i ∧ i < z_len w p ∧ (z_rg (z_I w p i) → z_G d u 300 1607 ls (z_i (z_I w p i) :: st) w Q)) := z_gun ((zF300_26 1606 (by decide)).trans rfl)
set_option maxRecDepth 100000 in
theorem g300_1607 {d : Nat} {u : Nat × Nat} {ls st : List z_V} {w : z_W} {Q : z_P} {p : Nat} {x0 : Int} : z_G (d + 1) u 300 1607 ls (z_i x0 :: z_r p :: st) w Q ↔ (z_k w p = 12 ∧ z_c8 st 8 = true ∧ z_G d (0, 0) 293 0 [z_r p, z_i x0] [] w (fun r w' => z_G (d + 1) u 300 1610 ls (r.toList ++ st) w' Q)) := z_gcaV (d := d) (m := 300) (pc := 1607) (m' := 293) (k := 2) (nL := 2) (nx := 1610) (ci := 12) (p := p) (u := u) (ls := ls) (st := st) (w := w) (Q := Q) (vs := [z_r p, z_i x0]) ((zF300_26 1607 (by decide)).trans rfl) rfl rfl
set_option maxRecDepth 100000 in
theorem g300_1610 {d : Nat} {u : Nat × Nat} {ls st : List z_V} {w : z_W} {Q : z_P} {x : Int} : z_G d u 300 1610 ls (z_i x :: st) w Q ↔ z_G d u 300 1611 ls st w Q := z_gun ((zF300_26 1610 (by decide)).trans rfl)
set_option maxRecDepth 100000 in
theorem g300_1610r {d : Nat} {u : Nat × Nat} {ls st : List z_V} {w : z_W} {Q : z_P} {k : Nat} : z_G d u 300 1610 ls (z_r k :: st) w Q ↔ z_G d u 300 1611 ls st w Q := z_gun ((zF300_26 1610 (by decide)).trans rfl)
set_option maxRecDepth 100000 in
theorem g300_1611 {d : Nat} {u : Nat × Nat} {ls st : List z_V} {w : z_W} {Q : z_P} : z_G d u 300 1611 ls st w Q ↔ z_G d u 300 1614 ls st w Q := z_gun ((zF300_26 1611 (by decide)).trans rfl)
set_option maxRecDepth 100000 in
theorem g300_1614 {d : Nat} {u : Nat × Nat} {ls st : List z_V} {w : z_W} {Q : z_P} {z : Int} {a0 a1 a2 a3 : z_V} : z_G d u 300 1614 (a0 :: a1 :: a2 :: a3 :: z_i z :: ls) st w Q ↔ z_G d u 300 1617 (a0 :: a1 :: a2 :: z_kl a3 :: z_i (z_add z (7)) :: ls) st w Q := z_gun ((zF300_26 1614 (by decide)).trans rfl)
set_option maxRecDepth 100000 in
theorem g300_1617 {d : Nat} {u : Nat × Nat} {ls st : List z_V} {w : z_W} {Q : z_P} : z_G d u 300 1617 ls st w Q ↔ z_G d u 300 23 ls st w Q := z_gun ((zF300_26 1617 (by decide)).trans rfl)
set_option maxRecDepth 100000 in
theorem g300_1620 {d : Nat} {u : Nat × Nat} {ls st : List z_V} {w : z_W} {Q : z_P} : z_G d u 300 1620 ls st w Q ↔ z_G d u 300 1621 ls (z_i (1) :: st) w Q := z_gun ((zF300_26 1620 (by decide)).trans rfl)
set_option maxRecDepth 100000 in
theorem g300_1621 {d : Nat} {u : Nat × Nat} {ls st : List z_V} {w : z_W} {Q : z_P} {x : Int} : z_G d u 300 1621 ls [z_i x] w Q ↔ ((x = 0 ∨ x = 1) ∧ Q (some (z_i x)) w) := z_gun ((zF300_26 1621 (by decide)).trans rfl)
