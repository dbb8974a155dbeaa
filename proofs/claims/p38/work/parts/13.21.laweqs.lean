set_option maxRecDepth 100000 in
theorem g300_565r {d : Nat} {u : Nat × Nat} {ls st : List z_V} {w : z_W} {Q : z_P} {k : Nat} : z_G d u 300 565 (z_r k :: ls) st w Q ↔ z_G d u 300 566 (z_r k :: ls) (z_r k :: st) w Q := z_gun ((zF300_7 565 (by decide)).trans rfl)
set_option maxRecDepth 100000 in
theorem g300_566 {d : Nat} {u : Nat × Nat} {ls st : List z_V} {w : z_W} {Q : z_P} {z : Int} {a0 a1 a2 a3 : z_V} : z_G d u 300 566 (a0 :: a1 :: a2 :: a3 :: z_i z :: ls) st w Q ↔ z_G d u 300 568 (a0 :: a1 :: a2 :: a3 :: z_i z :: ls) (z_i z :: st) w Q := z_gun ((zF300_7 566 (by decide)).trans rfl)
set_option maxRecDepth 100000 in
theorem g300_568 {d : Nat} {u : Nat × Nat} {ls st : List z_V} {w : z_W} {Q : z_P} : z_G d u 300 568 ls st w Q ↔ z_G d u 300 569 ls (z_i (3) :: st) w Q := z_gun ((zF300_7 568 (by decide)).trans rfl)
set_option maxRecDepth 100000 in
theorem g300_569 {d : Nat} {u : Nat × Nat} {ls st : List z_V} {w : z_W} {Q : z_P} {x y : Int} : z_G d u 300 569 ls (z_i y :: z_i x :: st) w Q ↔ z_G d u 300 570 ls (z_i (z_add x y) :: st) w Q := z_gun ((zF300_7 569 (by decide)).trans rfl)
set_option maxRecDepth 100000 in
theorem g300_570 {d : Nat} {u : Nat × Nat} {ls st : List z_V} {w : z_W} {Q : z_P} {p : Nat} {i : Int} : z_G d u 300 570 ls (z_i i :: z_r p :: st) w Q ↔ ((z_k w p = 100 ∨ z_k w p = 103) ∧ 0 ≤ i ∧ i < z_len w p ∧ (z_rg (z_I w p i) → z_G d u 300 571 ls (z_i (z_I w p i) :: st) w Q)) := z_gun ((zF300_7 570 (by decide)).trans rfl)
set_option maxRecDepth 100000 in
theorem g300_571 {d : Nat} {u : Nat × Nat} {ls st : List z_V} {w : z_W} {Q : z_P} {p : Nat} {x0 x1 x2 : Int} : z_G (d + 1) u 300 571 ls (z_i x2 :: z_i x1 :: z_i x0 :: z_r p :: st) w Q ↔ (z_k w p = 11 ∧ z_c8 st 8 = true ∧ z_G d (0, 0) 132 0 [z_r p, z_i x0, z_i x1, z_i x2, z_x, z_x] [] w (fun r w' => z_G (d + 1) u 300 574 ls (r.toList ++ st) w' Q)) := z_gcaV (d := d) (m := 300) (pc := 571) (m' := 132) (k := 4) (nL := 6) (nx := 574) (ci := 11) (p := p) (u := u) (ls := ls) (st := st) (w := w) (Q := Q) (vs := [z_r p, z_i x0, z_i x1, z_i x2]) ((zF300_7 571 (by decide)).trans rfl) rfl rfl
set_option maxRecDepth 100000 in
theorem g300_574 {d : Nat} {u : Nat × Nat} {ls st : List z_V} {w : z_W} {Q : z_P} {x : Int} : z_G d u 300 574 ls (z_i x :: st) w Q ↔ z_G d u 300 575 ls st w Q := z_gun ((zF300_7 574 (by decide)).trans rfl)
set_option maxRecDepth 100000 in
theorem g300_574r {d : Nat} {u : Nat × Nat} {ls st : List z_V} {w : z_W} {Q : z_P} {k : Nat} : z_G d u 300 574 ls (z_r k :: st) w Q ↔ z_G d u 300 575 ls st w Q := z_gun ((zF300_7 574 (by decide)).trans rfl)
set_option maxRecDepth 100000 in
theorem g300_575 {d : Nat} {u : Nat × Nat} {ls st : List z_V} {w : z_W} {Q : z_P} {o : Option Nat} {a0 a1 : z_V} : z_G d u 300 575 (a0 :: a1 :: z_vr o :: ls) st w Q ↔ z_G d u 300 576 (a0 :: a1 :: z_vr o :: ls) (z_vr o :: st) w Q := z_gun ((zF300_7 575 (by decide)).trans rfl)
set_option maxRecDepth 100000 in
theorem g300_575r {d : Nat} {u : Nat × Nat} {ls st : List z_V} {w : z_W} {Q : z_P} {k : Nat} {a0 a1 : z_V} : z_G d u 300 575 (a0 :: a1 :: z_r k :: ls) st w Q ↔ z_G d u 300 576 (a0 :: a1 :: z_r k :: ls) (z_r k :: st) w Q := z_gun ((zF300_7 575 (by decide)).trans rfl)
set_option maxRecDepth 100000 in
theorem g300_576 {d : Nat} {u : Nat × Nat} {ls st : List z_V} {w : z_W} {Q : z_P} {o : Option Nat} : z_G d u 300 576 (z_vr o :: ls) st w Q ↔ z_G d u 300 577 (z_vr o :: ls) (z_vr o :: st) w Q := z_gun ((zF300_7 576 (by decide)).trans rfl)
set_option maxRecDepth 100000 in
theorem g300_576r {d : Nat} {u : Nat × Nat} {ls st : List z_V} {w : z_W} {Q : z_P} {k : Nat} : z_G d u 300 576 (z_r k :: ls) st w Q ↔ z_G d u 300 577 (z_r k :: ls) (z_r k :: st) w Q := z_gun ((zF300_7 576 (by decide)).trans rfl)
set_option maxRecDepth 100000 in
theorem g300_577 {d : Nat} {u : Nat × Nat} {ls st : List z_V} {w : z_W} {Q : z_P} {z : Int} {a0 a1 a2 a3 : z_V} : z_G d u 300 577 (a0 :: a1 :: a2 :: a3 :: z_i z :: ls) st w Q ↔ z_G d u 300 579 (a0 :: a1 :: a2 :: a3 :: z_i z :: ls) (z_i z :: st) w Q := z_gun ((zF300_7 577 (by decide)).trans rfl)
set_option maxRecDepth 100000 in
theorem g300_579 {d : Nat} {u : Nat × Nat} {ls st : List z_V} {w : z_W} {Q : z_P} : z_G d u 300 579 ls st w Q ↔ z_G d u 300 580 ls (z_i (1) :: st) w Q := z_gun ((zF300_7 579 (by decide)).trans rfl)
set_option maxRecDepth 100000 in
theorem g300_580 {d : Nat} {u : Nat × Nat} {ls st : List z_V} {w : z_W} {Q : z_P} {x y : Int} : z_G d u 300 580 ls (z_i y :: z_i x :: st) w Q ↔ z_G d u 300 581 ls (z_i (z_add x y) :: st) w Q := z_gun ((zF300_7 580 (by decide)).trans rfl)
set_option maxRecDepth 100000 in
theorem g300_581 {d : Nat} {u : Nat × Nat} {ls st : List z_V} {w : z_W} {Q : z_P} {p : Nat} {i : Int} : z_G d u 300 581 ls (z_i i :: z_r p :: st) w Q ↔ ((z_k w p = 100 ∨ z_k w p = 103) ∧ 0 ≤ i ∧ i < z_len w p ∧ (z_rg (z_I w p i) → z_G d u 300 582 ls (z_i (z_I w p i) :: st) w Q)) := z_gun ((zF300_7 581 (by decide)).trans rfl)
set_option maxRecDepth 100000 in
theorem g300_582 {d : Nat} {u : Nat × Nat} {ls st : List z_V} {w : z_W} {Q : z_P} {o : Option Nat} : z_G d u 300 582 (z_vr o :: ls) st w Q ↔ z_G d u 300 583 (z_vr o :: ls) (z_vr o :: st) w Q := z_gun ((zF300_7 582 (by decide)).trans rfl)
set_option maxRecDepth 100000 in
theorem g300_582r {d : Nat} {u : Nat × Nat} {ls st : List z_V} {w : z_W} {Q : z_P} {k : Nat} : z_G d u 300 582 (z_r k :: ls) st w Q ↔ z_G d u 300 583 (z_r k :: ls) (z_r k :: st) w Q := z_gun ((zF300_7 582 (by decide)).trans rfl)
set_option maxRecDepth 100000 in
theorem g300_583 {d : Nat} {u : Nat × Nat} {ls st : List z_V} {w : z_W} {Q : z_P} {z : Int} {a0 a1 a2 a3 : z_V} : z_G d u 300 583 (a0 :: a1 :: a2 :: a3 :: z_i z :: ls) st w Q ↔ z_G d u 300 585 (a0 :: a1 :: a2 :: a3 :: z_i z :: ls) (z_i z :: st) w Q := z_gun ((zF300_7 583 (by decide)).trans rfl)
set_option maxRecDepth 100000 in
theorem g300_585 {d : Nat} {u : Nat × Nat} {ls st : List z_V} {w : z_W} {Q : z_P} : z_G d u 300 585 ls st w Q ↔ z_G d u 300 586 ls (z_i (2) :: st) w Q := z_gun ((zF300_7 585 (by decide)).trans rfl)
set_option maxRecDepth 100000 in
theorem g300_586 {d : Nat} {u : Nat × Nat} {ls st : List z_V} {w : z_W} {Q : z_P} {x y : Int} : z_G d u 300 586 ls (z_i y :: z_i x :: st) w Q ↔ z_G d u 300 587 ls (z_i (z_add x y) :: st) w Q := z_gun ((zF300_7 586 (by decide)).trans rfl)
set_option maxRecDepth 100000 in
theorem g300_587 {d : Nat} {u : Nat × Nat} {ls st : List z_V} {w : z_W} {Q : z_P} {p : Nat} {i : Int} : z_G d u 300 587 ls (z_i i :: z_r p :: st) w Q ↔ ((z_k w p = 100 ∨ z_k w p = 103) ∧ 0 ≤ i ∧ i < z_len w p ∧ (z_rg (z_I w p i) → z_G d u 300 588 ls (z_i (z_I w p i) :: st) w Q)) := z_gun ((zF300_7 587 (by decide)).trans rfl)
set_option maxRecDepth 100000 in
theorem g300_588 {d : Nat} {u : Nat × Nat} {ls st : List z_V} {w : z_W} {Q : z_P} {o : Option Nat} : z_G d u 300 588 (z_vr o :: ls) st w Q ↔ z_G d u 300 589 (z_vr o :: ls) (z_vr o :: st) w Q := z_gun ((zF300_7 588 (by decide)).trans rfl)
set_option maxRecDepth 100000 in
theorem g300_588r {d : Nat} {u : Nat × Nat} {ls st : List z_V} {w : z_W} {Q : z_P} {k : Nat} : z_G d u 300 588 (z_r k :: ls) st w Q ↔ z_G d u 300 589 (z_r k :: ls) (z_r k :: st) w Q := z_gun ((zF300_7 588 (by decide)).trans rfl)
set_option maxRecDepth 100000 in
theorem g300_589 {d : Nat} {u : Nat × Nat} {ls st : List z_V} {w : z_W} {Q : z_P} {z : Int} {a0 a1 a2 a3 : z_V} : z_G d u 300 589 (a0 :: a1 :: a2 :: a3 :: z_i z :: ls) st w Q ↔ z_G d u 300 591 (a0 :: a1 :: a2 :: a3 :: z_i z :: ls) (z_i z :: st) w Q := z_gun ((zF300_7 589 (by decide)).trans rfl)
set_option maxRecDepth 100000 in
theorem g300_591 {d : Nat} {u : Nat × Nat} {ls st : List z_V} {w : z_W} {Q : z_P} : z_G d u 300 591 ls st w Q ↔ z_G d u 300 592 ls (z_i (3) :: st) w Q := z_gun ((zF300_7 591 (by decide)).trans rfl)
set_option maxRecDepth 100000 in
theorem g300_592 {d : Nat} {u : Nat × Nat} {ls st : List z_V} {w : z_W} {Q : z_P} {x y : Int} : z_G d u 300 592 ls (z_i y :: z_i x :: st) w Q ↔ z_G d u 300 593 ls (z_i (z_add x y) :: st) w Q := z_gun ((zF300_7 592 (by decide)).trans rfl)
set_option maxRecDepth 100000 in
theorem g300_593 {d : Nat} {u : Nat × Nat} {ls st : List z_V} {w : z_W} {Q : z_P} {p : Nat} {i : Int} : z_G d u 300 593 ls (z_i i :: z_r p :: st) w Q ↔ ((z_k w p = 100 ∨ z_k w p = 103) ∧ 0 ≤ i ∧ i < z_len w p ∧ (z_rg (z_I w p i) → z_G d u 300 594 ls (z_i (z_I w p i) :: st) w Q)) := z_gun ((zF300_7 593 (by decide)).trans rfl)
set_option maxRecDepth 100000 in
theorem g300_594 {d : Nat} {u : Nat × Nat} {ls st : List z_V} {w : z_W} {Q : z_P} {p : Nat} {x0 x1 x2 : Int} : z_G (d + 1) u 300 594 ls (z_i x2 :: z_i x1 :: z_i x0 :: z_r p :: st) w Q ↔ (z_k w p = 12 ∧ z_c8 st 8 = true ∧ z_G d (0, 0) 258 0 [z_r p, z_i x0, z_i x1, z_i x2, z_x] [] w (fun r w' => z_G (d + 1) u 300 597 ls (r.toList ++ st) w' Q)) := z_gcaV (d := d) (m := 300) (pc := 594) (m' := 258) (k := 4) (nL := 5) (nx := 597) (ci := 12) (p := p) (u := u) (ls := ls) (st := st) (w := w) (Q := Q) (vs := [z_r p, z_i x0, z_i x1, z_i x2]) ((zF300_7 594 (by decide)).trans rfl) rfl rfl
set_option maxRecDepth 100000 in
theorem g300_597 {d : Nat} {u : Nat × Nat} {ls st : List z_V} {w : z_W} {Q : z_P} {x : Int} : z_G d u 300 597 ls (z_i x :: st) w Q ↔ z_G d u 300 598 ls st w Q := z_gun ((zF300_7 597 (by decide)).trans rfl)
set_option maxRecDepth 100000 in
theorem g300_597r {d : Nat} {u : Nat × Nat} {ls st : List z_V} {w : z_W} {Q : z_P} {k : Nat} : z_G d u 300 597 ls (z_r k :: st) w Q ↔ z_G d u 300 598 ls st w Q := z_gun ((zF300_7 597 (by decide)).trans rfl)
set_option maxRecDepth 100000 in
theorem g300_598 {d : Nat} {u : Nat × Nat} {ls st : List z_V} {w : z_W} {Q : z_P} : z_G d u 300 598 ls st w Q ↔ z_G d u 300 1586 ls st w Q := z_gun ((zF300_7 598 (by decide)).trans rfl)
set_option maxRecDepth 100000 in
theorem g300_601 {d : Nat} {u : Nat × Nat} {ls st : List z_V} {w : z_W} {Q : z_P} {o : Option Nat} {a0 : z_V} : z_G d u 300 601 (a0 :: z_vr o :: ls) st w Q ↔ z_G d u 300 602 (a0 :: z_vr o :: ls) (z_vr o :: st) w Q := z_gun ((zF300_7 601 (by decide)).trans rfl)
set_option maxRecDepth 100000 in
theorem g300_601r {d : Nat} {u : Nat × Nat} {ls st : List z_V} {w : z_W} {Q : z_P} {k : Nat} {a0 : z_V} : z_G d u 300 601 (a0 :: z_r k :: ls) st w Q ↔ z_G d u 300 602 (a0 :: z_r k :: ls) (z_r k :: st) w Q := z_gun ((zF300_7 601 (by decide)).trans rfl)
set_option maxRecDepth 100000 in
theorem g300_602 {d : Nat} {u : Nat × Nat} {ls st : List z_V} {w : z_W} {Q : z_P} {o : Option Nat} : z_G d u 300 602 (z_vr o :: ls) st w Q ↔ z_G d u 300 603 (z_vr o :: ls) (z_vr o :: st) w Q := z_gun ((zF300_7 602 (by decide)).trans rfl)
set_option maxRecDepth 100000 in
theorem g300_602r {d : Nat} {u : Nat × Nat} {ls st : List z_V} {w : z_W} {Q : z_P} {k : Nat} : z_G d u 300 602 (z_r k :: ls) st w Q ↔ z_G d u 300 603 (z_r k :: ls) (z_r k :: st) w Q := z_gun ((zF300_7 602 (by decide)).trans rfl)
set_option maxRecDepth 100000 in
theorem g300_603 {d : Nat} {u : Nat × Nat} {ls st : List z_V} {w : z_W} {Q : z_P} {z : Int} {a0 a1 a2 a3 : z_V} : z_G d u 300 603 (a0 :: a1 :: a2 :: a3 :: z_i z :: ls) st w Q ↔ z_G d u 300 605 (a0 :: a1 :: a2 :: a3 :: z_i z :: ls) (z_i z :: st) w Q := z_gun ((zF300_7 603 (by decide)).trans rfl)
set_option maxRecDepth 100000 in
theorem g300_605 {d : Nat} {u : Nat × Nat} {ls st : List z_V} {w : z_W} {Q : z_P} : z_G d u 300 605 ls st w Q ↔ z_G d u 300 606 ls (z_i (1) :: st) w Q := z_gun ((zF300_7 605 (by decide)).trans rfl)
set_option maxRecDepth 100000 in
theorem g300_606 {d : Nat} {u : Nat × Nat} {ls st : List z_V} {w : z_W} {Q : z_P} {x y : Int} : z_G d u 300 606 ls (z_i y :: z_i x :: st) w Q ↔ z_G d u 300 607 ls (z_i (z_add x y) :: st) w Q := z_gun ((zF300_8 606 (by decide)).trans rfl)
set_option maxRecDepth 100000 in
theorem g300_607 {d : Nat} {u : Nat × Nat} {ls st : List z_V} {w : z_W} {Q : z_P} {p : Nat} {i : Int} : z_G d u 300 607 ls (z_i i :: z_r p :: st) w Q ↔ ((z_k w p = 100 ∨ z_k w p = 103) ∧ 0 ≤ i ∧ i < z_len w p ∧ (z_rg (z_I w p i) → z_G d u 300 608 ls (z_i (z_I w p i) :: st) w Q)) := z_gun ((zF300_8 607 (by decide)).trans rfl)
set_option maxRecDepth 100000 in
theorem g300_608 {d : Nat} {u : Nat × Nat} {ls st : List z_V} {w : z_W} {Q : z_P} {o : Option Nat} : z_G d u 300 608 (z_vr o :: ls) st w Q ↔ z_G d u 300 609 (z_vr o :: ls) (z_vr o :: st) w Q := z_gun ((zF300_8 608 (by decide)).trans rfl)
set_option maxRecDepth 100000 in
theorem g300_608r {d : Nat} {u : Nat × Nat} {ls st : List z_V} {w : z_W} {Q : z_P} {k : Nat} : z_G d u 300 608 (z_r k :: ls) st w Q ↔ z_G d u 300 609 (z_r k :: ls) (z_r k :: st) w Q := z_gun ((zF300_8 608 (by decide)).trans rfl)
set_option maxRecDepth 100000 in
theorem g300_609 {d : Nat} {u : Nat × Nat} {ls st : List z_V} {w : z_W} {Q : z_P} {z : Int} {a0 a1 a2 a3 : z_V} : z_G d u 300 609 (a0 :: a1 :: a2 :: a3 :: z_i z :: ls) st w Q ↔ z_G d u 300 611 (a0 :: a1 :: a2 :: a3 :: z_i z :: ls) (z_i z :: st) w Q := z_gun ((zF300_8 609 (by decide)).trans rfl)
set_option maxRecDepth 100000 in
theorem g300_611 {d : Nat} {u : Nat × Nat} {ls st : List z_V} {w : z_W} {Q : z_P} : z_G d u 300 611 ls st w Q ↔ z_G d u 300 612 ls (z_i (2) :: st) w Q := z_gun ((zF300_8 611 (by decide)).trans rfl)
set_option maxRecDepth 100000 in
theorem g300_612 {d : Nat} {u : Nat × Nat} {ls st : List z_V} {w : z_W} {Q : z_P} {x y : Int} : z_G d u 300 612 ls (z_i y :: z_i x :: st) w Q ↔ z_G d u 300 613 ls (z_i (z_add x y) :: st) w Q := z_gun ((zF300_8 612 (by decide)).trans rfl)
set_option maxRecDepth 100000 in
theorem g300_613 {d : Nat} {u : Nat × Nat} {ls st : List z_V} {w : z_W} {Q : z_P} {p : Nat} {i : Int} : z_G d u 300 613 ls (z_i i :: z_r p :: st) w Q ↔ ((z_k w p = 100 ∨ z_k w p = 103) ∧ 0 ≤ i ∧ i < z_len w p ∧ (z_rg (z_I w p i) → z_G d u 300 614 ls (z_i (z_I w p i) :: st) w Q)) := z_gun ((zF300_8 613 (by decide)).trans rfl)
set_option maxRecDepth 100000 in
theorem g300_614 {d : Nat} {u : Nat × Nat} {ls st : List z_V} {w : z_W} {Q : z_P} {o : Option Nat} : z_G d u 300 614 (z_vr o :: ls) st w Q ↔ z_G d u 300 615 (z_vr o :: ls) (z_vr o :: st) w Q := z_gun ((zF300_8 614 (by decide)).trans rfl)
set_option maxRecDepth 100000 in
theorem g300_614r {d : Nat} {u : Nat × Nat} {ls st : List z_V} {w : z_W} {Q : z_P} {k : Nat} : z_G d u 300 614 (z_r k :: ls) st w Q ↔ z_G d u 300 615 (z_r k :: ls) (z_r k :: st) w Q := z_gun ((zF300_8 614 (by decide)).trans rfl)
set_option maxRecDepth 100000 in
theorem g300_615 {d : Nat} {u : Nat × Nat} {ls st : List z_V} {w : z_W} {Q : z_P} {z : Int} {a0 a1 a2 a3 : z_V} : z_G d u 300 615 (a0 :: a1 :: a2 :: a3 :: z_i z :: ls) st w Q ↔ z_G d u 300 617 (a0 :: a1 :: a2 :: a3 :: z_i z :: ls) (z_i z :: st) w Q := z_gun ((zF300_8 615 (by decide)).trans rfl)
set_option maxRecDepth 100000 in
theorem g300_617 {d : Nat} {u : Nat × Nat} {ls st : List z_V} {w : z_W} {Q : z_P} : z_G d u 300 617 ls st w Q ↔ z_G d u 300 618 ls (z_i (3) :: st) w Q := z_gun ((zF300_8 617 (by decide)).trans rfl)
set_option maxRecDepth 100000 in
theorem g300_618 {d : Nat} {u : Nat × Nat} {ls st : List z_V} {w : z_W} {Q : z_P} {x y : Int} : z_G d u 300 618 ls (z_i y :: z_i x :: st) w Q ↔ z_G d u 300 619 ls (z_i (z_add x y) :: st) w Q := z_gun ((zF300_8 618 (by decide)).trans rfl)
set_option maxRecDepth 100000 in
theorem g300_619 {d : Nat} {u : Nat × Nat} {ls st : List z_V} {w : z_W} {Q : z_P} {p : Nat} {i : Int} : z_G d u 300 619 ls (z_i i :: z_r p :: st) w Q ↔ ((z_k w p = 100 ∨ z_k w p = 103) ∧ 0 ≤ i ∧ i < z_len w p ∧ (z_rg (z_I w p i) → z_G d u 300 620 ls (z_i (z_I w p i) :: st) w Q)) := z_gun ((zF300_8 619 (by decide)).trans rfl)
set_option maxRecDepth 100000 in
theorem g300_620 {d : Nat} {u : Nat × Nat} {ls st : List z_V} {w : z_W} {Q : z_P} {o : Option Nat} : z_G d u 300 620 (z_vr o :: ls) st w Q ↔ z_G d u 300 621 (z_vr o :: ls) (z_vr o :: st) w Q := z_gun ((zF300_8 620 (by decide)).trans rfl)
set_option maxRecDepth 100000 in
theorem g300_620r {d : Nat} {u : Nat × Nat} {ls st : List z_V} {w : z_W} {Q : z_P} {k : Nat} : z_G d u 300 620 (z_r k :: ls) st w Q ↔ z_G d u 300 621 (z_r k :: ls) (z_r k :: st) w Q := z_gun ((zF300_8 620 (by decide)).trans rfl)
set_option maxRecDepth 100000 in
theorem g300_621 {d : Nat} {u : Nat × Nat} {ls st : List z_V} {w : z_W} {Q : z_P} {z : Int} {a0 a1 a2 a3 : z_V} : z_G d u 300 621 (a0 :: a1 :: a2 :: a3 :: z_i z :: ls) st w Q ↔ z_G d u 300 623 (a0 :: a1 :: a2 :: a3 :: z_i z :: ls) (z_i z :: st) w Q := z_gun ((zF300_8 621 (by decide)).trans rfl)
set_option maxRecDepth 100000 in
theorem g300_623 {d : Nat} {u : Nat × Nat} {ls st : List z_V} {w : z_W} {Q : z_P} : z_G d u 300 623 ls st w Q ↔ z_G d u 300 624 ls (z_i (4) :: st) w Q := z_gun ((zF300_8 623 (by decide)).trans rfl)
set_option maxRecDepth 100000 in
theorem g300_624 {d : Nat} {u : Nat × Nat} {ls st : List z_V} {w : z_W} {Q : z_P} {x y : Int} : z_G d u 300 624 ls (z_i y :: z_i x :: st) w Q ↔ z_G d u 300 625 ls (z_i (z_add x y) :: st) w Q := z_gun ((zF300_8 624 (by decide)).trans rfl)
set_option maxRecDepth 100000 in
theorem g300_625 {d : Nat} {u : Nat × Nat} {ls st : List z_V} {w : z_W} {Q : z_P} {p : Nat} {i : Int} : z_G d u 300 625 ls (z_i i :: z_r p :: st) w Q ↔ ((z_k w p = 100 ∨ z_k w p = 103) ∧ 0 ≤ i ∧ i < z_len w p ∧ (z_rg (z_I w p i) → z_G d u 300 626 ls (z_i (z_I w p i) :: st) w Q)) := z_gun ((zF300_8 625 (by decide)).trans rfl)
set_option maxRecDepth 100000 in
theorem g300_626 {d : Nat} {u : Nat × Nat} {ls st : List z_V} {w : z_W} {Q : z_P} {o : Option Nat} : z_G d u 300 626 (z_vr o :: ls) st w Q ↔ z_G d u 300 627 (z_vr o :: ls) (z_vr o :: st) w Q := z_gun ((zF300_8 626 (by decide)).trans rfl)
set_option maxRecDepth 100000 in
theorem g300_626r {d : Nat} {u : Nat × Nat} {ls st : List z_V} {w : z_W} {Q : z_P} {k : Nat} : z_G d u 300 626 (z_r k :: ls) st w Q ↔ z_G d u 300 627 (z_r k :: ls) (z_r k :: st) w Q := z_gun ((zF300_8 626 (by decide)).trans rfl)
set_option maxRecDepth 100000 in
theorem g300_627 {d : Nat} {u : Nat × Nat} {ls st : List z_V} {w : z_W} {Q : z_P} {z : Int} {a0 a1 a2 a3 : z_V} : z_G d u 300 627 (a0 :: a1 :: a2 :: a3 :: z_i z :: ls) st w Q ↔ z_G d u 300 629 (a0 :: a1 :: a2 :: a3 :: z_i z :: ls) (z_i z :: st) w Q := z_gun ((zF300_8 627 (by decide)).trans rfl)
set_option maxRecDepth 100000 in
theorem g300_629 {d : Nat} {u : Nat × Nat} {ls st : List z_V} {w : z_W} {Q : z_P} : z_G d u 300 629 ls st w Q ↔ z_G d u 300 630 ls (z_i (5) :: st) w Q := z_gun ((zF300_8 629 (by decide)).trans rfl)
set_option maxRecDepth 100000 in
theorem g300_630 {d : Nat} {u : Nat × Nat} {ls st : List z_V} {w : z_W} {Q : z_P} {x y : Int} : z_G d u 300 630 ls (z_i y :: z_i x :: st) w Q ↔ z_G d u 300 631 ls (z_i (z_add x y) :: st) w Q := z_gun ((zF300_8 630 (by decide)).trans rfl)
set_option maxRecDepth 100000 in
theorem g300_631 {d : Nat} {u : Nat × Nat} {ls st : List z_V} {w : z_W} {Q : z_P} {p : Nat} {i : Int} : z_G d u 300 631 ls (z_i i :: z_r p :: st) w Q ↔ ((z_k w p = 100 ∨ z_k w p = 103) ∧ 0 ≤ i ∧ i < z_len w p ∧ (z_rg (z_I w p i) → z_G d u 300 632 ls (z_i (z_I w p i) :: st) w Q)) := z_gun ((zF300_8 631 (by decide)).trans rfl)
set_option maxRecDepth 100000 in
theorem g300_632 {d : Nat} {u : Nat × Nat} {ls st : List z_V} {w : z_W} {Q : z_P} {p : Nat} {x0 x1 x2 x3 x4 : Int} : z_G (d + 1) u 300 632 ls (z_i x4 :: z_i x3 :: z_i x2 :: z_i x1 :: z_i x0 :: z_r p :: st) w Q ↔ (z_k w p = 11 ∧ z_c8 st 8 = true ∧ z_G d (0, 0) 133 0 [z_r p, z_i x0, z_i x1, z_i x2, z_i x3, z_i x4, z_x, z_x] [] w (fun r w' => z_G (d + 1) u 300 635 ls (r.toList ++ st) w' Q)) := z_gcaV (d := d) (m := 300) (pc := 632) (m' := 133) (k := 6) (nL := 8) (nx := 635) (ci := 11) (p := p) (u := u) (ls := ls) (st := st) (w := w) (Q := Q) (vs := [z_r p, z_i x0, z_i x1, z_i x2, z_i x3, z_i x4]) ((zF300_8 632 (by decide)).trans rfl) rfl rfl
set_option maxRecDepth 100000 in
theorem g300_635 {d : Nat} {u : Nat × Nat} {ls st : List z_V} {w : z_W} {Q : z_P} {x : Int} : z_G d u 300 635 ls (z_i x :: st) w Q ↔ z_G d u 300 636 ls st w Q := z_gun ((zF300_8 635 (by decide)).trans rfl)
set_option maxRecDepth 100000 in
theorem g300_635r {d : Nat} {u : Nat × Nat} {ls st : List z_V} {w : z_W} {Q : z_P} {k : Nat} : z_G d u 300 635 ls (z_r k :: st) w Q ↔ z_G d u 300 636 ls st w Q := z_gun ((zF300_8 635 (by decide)).trans rfl)
set_option maxRecDepth 100000 in
theorem g300_636 {d : Nat} {u : Nat × Nat} {ls st : List z_V} {w : z_W} {Q : z_P} {o : Option Nat} {a0 a1 : z_V} : z_G d u 300 636 (a0 :: a1 :: z_vr o :: ls) st w Q ↔ z_G d u 300 637 (a0 :: a1 :: z_vr o :: ls) (z_vr o :: st) w Q := z_gun ((zF300_8 636 (by decide)).trans rfl)
set_option maxRecDepth 100000 in
theorem g300_636r {d : Nat} {u : Nat × Nat} {ls st : List z_V} {w : z_W} {Q : z_P} {k : Nat} {a0 a1 : z_V} : z_G d u 300 636 (a0 :: a1 :: z_r k :: ls) st w Q ↔ z_G d u 300 637 (a0 :: a1 :: z_r k :: ls) (z_r k :: st) w Q := z_gun ((zF300_8 636 (by decide)).trans rfl)
set_option maxRecDepth 100000 in
theorem g300_637 {d : Nat} {u : Nat × Nat} {ls st : List z_V} {w : z_W} {Q : z_P} {o : Option Nat} : z_G d u 300 637 (z_vr o :: ls) st w Q ↔ z_G d u 300 638 (z_vr o :: ls) (z_vr o :: st) w Q := z_gun ((zF300_8 637 (by decide)).trans rfl)
set_option maxRecDepth 100000 in
theorem g300_637r {d : Nat} {u : Nat × Nat} {ls st : List z_V} {w : z_W} {Q : z_P} {k : Nat} : z_G d u 300 637 (z_r k :: ls) st w Q ↔ z_G d u 300 638 (z_r k :: ls) (z_r k :: st) w Q := z_gun ((zF300_8 637 (by decide)).trans rfl)
set_option maxRecDepth 100000 in
theorem g300_638 {d : Nat} {u : Nat × Nat} {ls st : List z_V} {w : z_W} {Q : z_P} {z : Int} {a0 a1 a2 a3 : z_V} : z_G d u 300 638 (a0 :: a1 :: a2 :: a3 :: z_i z :: ls) st w Q ↔ z_G d u 300 640 (a0 :: a1 :: a2 :: a3 :: z_i z :: ls) (z_i z :: st) w Q := z_gun ((zF300_8 638 (by decide)).trans rfl)
set_option maxRecDepth 100000 in
theorem g300_640 {d : Nat} {u : Nat × Nat} {ls st : List z_V} {w : z_W} {Q : z_P} : z_G d u 300 640 ls st w Q ↔ z_G d u 300 641 ls (z_i (1) :: st) w Q := z_gun ((zF300_8 640 (by decide)).trans rfl)
set_option maxRecDepth 100000 in
theorem g300_641 {d : Nat} {u : Nat × Nat} {ls st : List z_V} {w : z_W} {Q : z_P} {x y : Int} : z_G d u 300 641 ls (z_i y :: z_i x :: st) w Q ↔ z_G d u 300 642 ls (z_i (z_add x y) :: st) w Q := z_gun ((zF300_8 641 (by decide)).trans rfl)
set_option maxRecDepth 100000 in
theorem g300_642 {d : Nat} {u : Nat × Nat} {ls st : List z_V} {w : z_W} {Q : z_P} {p : Nat} {i : Int} : z_G d u 300 642 ls (z_i i :: z_r p :: st) w Q ↔ ((z_k w p = 100 ∨ z_k w p = 103) ∧ 0 ≤ i ∧ i < z_len w p ∧ (z_rg (z_I w p i) → z_G d u 300 643 ls (z_i (z_I w p i) :: st) w Q)) := z_gun ((zF300_8 642 (by decide)).trans rfl)
set_option maxRecDepth 100000 in
theorem g300_643 {d : Nat} {u : Nat × Nat} {ls st : List z_V} {w : z_W} {Q : z_P} {o : Option Nat} : z_G d u 300 643 (z_vr o :: ls) st w Q ↔ z_G d u 300 644 (z_vr o :: ls) (z_vr o :: st) w Q := z_gun ((zF300_8 643 (by decide)).trans rfl)
set_option maxRecDepth 100000 in
theorem g300_643r {d : Nat} {u : Nat × Nat} {ls st : List z_V} {w : z_W} {Q : z_P} {k : Nat} : z_G d u 300 643 (z_r k :: ls) st w Q ↔ z_G d u 300 644 (z_r k :: ls) (z_r k :: st) w Q := z_gun ((zF300_8 643 (by decide)).trans rfl)
set_option maxRecDepth 100000 in
theorem g300_644 {d : Nat} {u : Nat × Nat} {ls st : List z_V} {w : z_W} {Q : z_P} {z : Int} {a0 a1 a2 a3 : z_V} : z_G d u 300 644 (a0 :: a1 :: a2 :: a3 :: z_i z :: ls) st w Q ↔ z_G d u 300 646 (a0 :: a1 :: a2 :: a3 :: z_i z :: ls) (z_i z :: st) w Q := z_gun ((zF300_8 644 (by decide)).trans rfl)
set_option maxRecDepth 100000 in
theorem g300_646 {d : Nat} {u : Nat × Nat} {ls st : List z_V} {w : z_W} {Q : z_P} : z_G d u 300 646 ls st w Q ↔ z_G d u 300 647 ls (z_i (2) :: st) w Q := z_gun ((zF300_8 646 (by decide)).trans rfl)
set_option maxRecDepth 100000 in
theorem g300_647 {d : Nat} {u : Nat × Nat} {ls st : List z_V} {w : z_W} {Q : z_P} {x y : Int} : z_G d u 300 647 ls (z_i y :: z_i x :: st) w Q ↔ z_G d u 300 648 ls (z_i (z_add x y) :: st) w Q := z_gun ((zF300_8 647 (by decide)).trans rfl)
set_option maxRecDepth 100000 in
theorem g300_648 {d : Nat} {u : Nat × Nat} {ls st : List z_V} {w : z_W} {Q : z_P} {p : Nat} {i : Int} : z_G d u 300 648 ls (z_i i :: z_r p :: st) w Q ↔ ((z_k w p = 100 ∨ z_k w p = 103) ∧ 0 ≤ i ∧ i < z_len w p ∧ (z_rg (z_I w p i) → z_G d u 300 649 ls (z_i (z_I w p i) :: st) w Q)) := z_gun ((zF300_8 648 (by decide)).trans rfl)
set_option maxRecDepth 100000 in
theorem g300_649 {d : Nat} {u : Nat × Nat} {ls st : List z_V} {w : z_W} {Q : z_P} {o : Option Nat} : z_G d u 300 649 (z_vr o :: ls) st w Q ↔ z_G d u 300 650 (z_vr o :: ls) (z_vr o :: st) w Q := z_gun ((zF300_8 649 (by decide)).trans rfl)
set_option maxRecDepth 100000 in
theorem g300_649r {d : Nat} {u : Nat × Nat} {ls st : List z_V} {w : z_W} {Q : z_P} {k : Nat} : z_G d u 300 649 (z_r k :: ls) st w Q ↔ z_G d u 300 650 (z_r k :: ls) (z_r k :: st) w Q := z_gun ((zF300_8 649 (by decide)).trans rfl)
set_option maxRecDepth 100000 in
theorem g300_650 {d : Nat} {u : Nat × Nat} {ls st : List z_V} {w : z_W} {Q : z_P} {z : Int} {a0 a1 a2 a3 : z_V} : z_G d u 300 650 (a0 :: a1 :: a2 :: a3 :: z_i z :: ls) st w Q ↔ z_G d u 300 652 (a0 :: a1 :: a2 :: a3 :: z_i z :: ls) (z_i z :: st) w Q := z_gun ((zF300_8 650 (by decide)).trans rfl)
set_option maxRecDepth 100000 in
theorem g300_652 {d : Nat} {u : Nat × Nat} {ls st : List z_V} {w : z_W} {Q : z_P} : z_G d u 300 652 ls st w Q ↔ z_G d u 300 653 ls (z_i (3) :: st) w Q := z_gun ((zF300_8 652 (by decide)).trans rfl)
set_option maxRecDepth 100000 in
theorem g300_653 {d : Nat} {u : Nat × Nat} {ls st : List z_V} {w : z_W} {Q : z_P} {x y : Int} : z_G d u 300 653 ls (z_i y :: z_i x :: st) w Q ↔ z_G d u 300 654 ls (z_i (z_add x y) :: st) w Q := z_gun ((zF300_8 653 (by decide)).trans rfl)
set_option maxRecDepth 100000 in
theorem g300_654 {d : Nat} {u : Nat × Nat} {ls st : List z_V} {w : z_W} {Q : z_P} {p : Nat} {i : Int} : z_G d u 300 654 ls (z_i i :: z_r p :: st) w Q ↔ ((z_k w p = 100 ∨ z_k w p = 103) ∧ 0 ≤ i ∧ i < z_len w p ∧ (z_rg (z_I w p i) → z_G d u 300 655 ls (z_i (z_I w p i) :: st) w Q)) := z_gun ((zF300_8 654 (by decide)).trans rfl)
set_option maxRecDepth 100000 in
theorem g300_655 {d : Nat} {u : Nat × Nat} {ls st : List z_V} {w : z_W} {Q : z_P} {o : Option Nat} : z_G d u 300 655 (z_vr o :: ls) st w Q ↔ z_G d u 300 656 (z_vr o :: ls) (z_vr o :: st) w Q := z_gun ((zF300_9 655 (by decide)).trans rfl)
set_option maxRecDepth 100000 in
theorem g300_655r {d : Nat} {u : Nat × Nat} {ls st : List z_V} {w : z_W} {Q : z_P} {k : Nat} : z_G d u 300 655 (z_r k :: ls) st w Q ↔ z_G d u 300 656 (z_r k :: ls) (z_r k :: st) w Q := z_gun ((zF300_9 655 (by decide)).trans rfl)
set_option maxRecDepth 100000 in
theorem g300_656 {d : Nat} {u : Nat × Nat} {ls st : List z_V} {w : z_W} {Q : z_P} {z : Int} {a0 a1 a2 a3 : z_V} : z_G d u 300 656 (a0 :: a1 :: a2 :: a3 :: z_i z :: ls) st w Q ↔ z_G d u 300 658 (a0 :: a1 :: a2 :: a3 :: z_i z :: ls) (z_i z :: st) w Q := z_gun ((zF300_9 656 (by decide)).trans rfl)
set_option maxRecDepth 100000 in
theorem g300_658 {d : Nat} {u : Nat × Nat} {ls st : List z_V} {w : z_W} {Q : z_P} : z_G d u 300 658 ls st w Q ↔ z_G d u 300 659 ls (z_i (4) :: st) w Q := z_gun ((zF300_9 658 (by decide)).trans rfl)
set_option maxRecDepth 100000 in
theorem g300_659 {d : Nat} {u : Nat × Nat} {ls st : List z_V} {w : z_W} {Q : z_P} {x y : Int} : z_G d u 300 659 ls (z_i y :: z_i x :: st) w Q ↔ z_G d u 300 660 ls (z_i (z_add x y) :: st) w Q := z_gun ((zF300_9 659 (by decide)).trans rfl)
set_option maxRecDepth 100000 in
theorem g300_660 {d : Nat} {u : Nat × Nat} {ls st : List z_V} {w : z_W} {Q : z_P} {p : Nat} {i : Int} : z_G d u 300 660 ls (z_i i :: z_r p :: st) w Q ↔ ((z_k w p = 100 ∨ z_k w p = 103) ∧ 0 ≤ i ∧ i < z_len w p ∧ (z_rg (z_I w p i) → z_G d u 300 661 ls (z_i (z_I w p i) :: st) w Q)) := z_gun ((zF300_9 660 (by decide)).trans rfl)
set_option maxRecDepth 100000 in
theorem g300_661 {d : Nat} {u : Nat × Nat} {ls st : List z_V} {w : z_W} {Q : z_P} {o : Option Nat} : z_G d u 300 661 (z_vr o :: ls) st w Q ↔ z_G d u 300 662 (z_vr o :: ls) (z_vr o :: st) w Q := z_gun ((zF300_9 661 (by decide)).trans rfl)
set_option maxRecDepth 100000 in
theorem g300_661r {d : Nat} {u : Nat × Nat} {ls st : List z_V} {w : z_W} {Q : z_P} {k : Nat} : z_G d u 300 661 (z_r k :: ls) st w Q ↔ z_G d u 300 662 (z_r k :: ls) (z_r k :: st) w Q := z_gun ((zF300_9 661 (by decide)).trans rfl)
set_option maxRecDepth 100000 in
theorem g300_662 {d : Nat} {u : Nat × Nat} {ls st : List z_V} {w : z_W} {Q : z_P} {z : Int} {a0 a1 a2 a3 : z_V} : z_G d u 300 662 (a0 :: a1 :: a2 :: a3 :: z_i z :: ls) st w Q ↔ z_G d u 300 664 (a0 :: a1 :: a2 :: a3 :: z_i z :: ls) (z_i z :: st) w Q := z_gun ((zF300_9 662 (by decide)).trans rfl)
set_option maxRecDepth 100000 in
theorem g300_664 {d : Nat} {u : Nat × Nat} {ls st : List z_V} {w : z_W} {Q : z_P} : z_G d u 300 664 ls st w Q ↔ z_G d u 300 665 ls (z_i (5) :: st) w Q := z_gun ((zF300_9 664 (by decide)).trans rfl)
set_option maxRecDepth 100000 in
theorem g300_665 {d : Nat} {u : Nat × Nat} {ls st : List z_V} {w : z_W} {Q : z_P} {x y : Int} : z_G d u 300 665 ls (z_i y :: z_i x :: st) w Q ↔ z_G d u 300 666 ls (z_i (z_add x y) :: st) w Q := z_gun ((zF300_9 665 (by decide)).trans rfl)
set_option maxRecDepth 100000 in
theorem g300_666 {d : Nat} {u : Nat × Nat} {ls st : List z_V} {w : z_W} {Q : z_P} {p : Nat} {i : Int} : z_G d u 300 666 ls (z_i i :: z_r p :: st) w Q ↔ ((z_k w p = 100 ∨ z_k w p = 103) ∧ 0 ≤ i ∧ i < z_len w p ∧ (z_rg (z_I w p i) → z_G d u 300 667 ls (z_i (z_I w p i) :: st) w Q)) := z_gun ((zF300_9 666 (by decide)).trans rfl)
set_option maxRecDepth 100000 in
theorem g300_667 {d : Nat} {u : Nat × Nat} {ls st : List z_V} {w : z_W} {Q : z_P} {p : Nat} {x0 x1 x2 x3 x4 : Int} : z_G (d + 1) u 300 667 ls (z_i x4 :: z_i x3 :: z_i x2 :: z_i x1 :: z_i x0 :: z_r p :: st) w Q ↔ (z_k w p = 12 ∧ z_c8 st 8 = true ∧ z_G d (0, 0) 259 0 [z_r p, z_i x0, z_i x1, z_i x2, z_i x3, z_i x4, z_x, z_x] [] w (fun r w' => z_G (d + 1) u 300 670 ls (r.toList ++ st) w' Q)) := z_gcaV (d := d) (m := 300) (pc := 667) (m' := 259) (k := 6) (nL := 8) (nx := 670) (ci := 12) (p := p) (u := u) (ls := ls) (st := st) (w := w) (Q := Q) (vs := [z_r p, z_i x0, z_i x1, z_i x2, z_i x3, z_i x4]) ((zF300_9 667 (by decide)).trans rfl) rfl rfl
set_option maxRecDepth 100000 in
theorem g300_670 {d : Nat} {u : Nat × Nat} {ls st : List z_V} {w : z_W} {Q : z_P} {x : Int} : z_G d u 300 670 ls (z_i x :: st) w Q ↔ z_G d u 300 671 ls st w Q := z_gun ((zF300_9 670 (by decide)).trans rfl)
set_option maxRecDepth 100000 in
theorem g300_670r {d : Nat} {u : Nat × Nat} {ls st : List z_V} {w : z_W} {Q : z_P} {k : Nat} : z_G d u 300 670 ls (z_r k :: st) w Q ↔ z_G d u 300 671 ls st w Q := z_gun ((zF300_9 670 (by decide)).trans rfl)
set_option maxRecDepth 100000 in
theorem g300_671 {d : Nat} {u : Nat × Nat} {ls st : List z_V} {w : z_W} {Q : z_P} : z_G d u 300 671 ls st w Q ↔ z_G d u 300 1586 ls st w Q := z_gun ((zF300_9 671 (by decide)).trans rfl)
set_option maxRecDepth 100000 in
theorem g300_674 {d : Nat} {u : Nat × Nat} {ls st : List z_V} {w : z_W} {Q : z_P} {o : Option Nat} {a0 : z_V} : z_G d u 300 674 (a0 :: z_vr o :: ls) st w Q ↔ z_G d u 300 675 (a0 :: z_vr o :: ls) (z_vr o :: st) w Q := z_gun ((zF300_9 674 (by decide)).trans rfl)
set_option maxRecDepth 100000 in
theorem g300_674r {d : Nat} {u : Nat × Nat} {ls st : List z_V} {w : z_W} {Q : z_P} {k : Nat} {a0 : z_V} : z_G d u 300 674 (a0 :: z_r k :: ls) st w Q ↔ z_G d u 300 675 (a0 :: z_r k :: ls) (z_r k :: st) w Q := z_gun ((zF300_9 674 (by decide)).trans rfl)
set_option maxRecDepth 100000 in
theorem g300_675 {d : Nat} {u : Nat × Nat} {ls st : List z_V} {w : z_W} {Q : z_P} {o : Option Nat} : z_G d u 300 675 (z_vr o :: ls) st w Q ↔ z_G d u 300 676 (z_vr o :: ls) (z_vr o :: st) w Q := z_gun ((zF300_9 675 (by decide)).trans rfl)
set_option maxRecDepth 100000 in
theorem g300_675r {d : Nat} {u : Nat × Nat} {ls st : List z_V} {w : z_W} {Q : z_P} {k : Nat} : z_G d u 300 675 (z_r k :: ls) st w Q ↔ z_G d u 300 676 (z_r k :: ls) (z_r k :: st) w Q := z_gun ((zF300_9 675 (by decide)).trans rfl)
set_option maxRecDepth 100000 in
theorem g300_676 {d : Nat} {u : Nat × Nat} {ls st : List z_V} {w : z_W} {Q : z_P} {z : Int} {a0 a1 a2 a3 : z_V} : z_G d u 300 676 (a0 :: a1 :: a2 :: a3 :: z_i z :: ls) st w Q ↔ z_G d u 300 678 (a0 :: a1 :: a2 :: a3 :: z_i z :: ls) (z_i z :: st) w Q := z_gun ((zF300_9 676 (by decide)).trans rfl)
set_option maxRecDepth 100000 in
theorem g300_678 {d : Nat} {u : Nat × Nat} {ls st : List z_V} {w : z_W} {Q : z_P} : z_G d u 300 678 ls st w Q ↔ z_G d u 300 679 ls (z_i (1) :: st) w Q := z_gun ((zF300_9 678 (by decide)).trans rfl)
set_option maxRecDepth 100000 in
theorem g300_679 {d : Nat} {u : Nat × Nat} {ls st : List z_V} {w : z_W} {Q : z_P} {x y : Int} : z_G d u 300 679 ls (z_i y :: z_i x :: st) w Q ↔ z_G d u 300 680 ls (z_i (z_add x y) :: st) w Q := z_gun ((zF300_9 679 (by decide)).trans rfl)
set_option maxRecDepth 100000 in
theorem g300_680 {d : Nat} {u : Nat × Nat} {ls st : List z_V} {w : z_W} {Q : z_P} {p : Nat} {i : Int} : z_G d u 300 680 ls (z_i i :: z_r p :: st) w Q ↔ ((z_k w p = 100 ∨ z_k w p = 103) ∧ 0 ≤ i ∧ i < z_len w p ∧ (z_rg (z_I w p i) → z_G d u 300 681 ls (z_i (z_I w p i) :: st) w Q)) := z_gun ((zF300_9 680 (by decide)).trans rfl)
set_option maxRecDepth 100000 in
theorem g300_681 {d : Nat} {u : Nat × Nat} {ls st : List z_V} {w : z_W} {Q : z_P} {o : Option Nat} : z_G d u 300 681 (z_vr o :: ls) st w Q ↔ z_G d u 300 682 (z_vr o :: ls) (z_vr o :: st) w Q := z_gun ((zF300_9 681 (by decide)).trans rfl)
set_option maxRecDepth 100000 in
theorem g300_681r {d : Nat} {u : Nat × Nat} {ls st : List z_V} {w : z_W} {Q : z_P} {k : Nat} : z_G d u 300 681 (z_r k :: ls) st w Q ↔ z_G d u 300 682 (z_r k :: ls) (z_r k :: st) w Q := z_gun ((zF300_9 681 (by decide)).trans rfl)
set_option maxRecDepth 100000 in
theorem g300_682 {d : Nat} {u : Nat × Nat} {ls st : List z_V} {w : z_W} {Q : z_P} {z : Int} {a0 a1 a2 a3 : z_V} : z_G d u 300 682 (a0 :: a1 :: a2 :: a3 :: z_i z :: ls) st w Q ↔ z_G d u 300 684 (a0 :: a1 :: a2 :: a3 :: z_i z :: ls) (z_i z :: st) w Q := z_gun ((zF300_9 682 (by decide)).trans rfl)
set_option maxRecDepth 100000 in
theorem g300_684 {d : Nat} {u : Nat × Nat} {ls st : List z_V} {w : z_W} {Q : z_P} : z_G d u 300 684 ls st w Q ↔ z_G d u 300 685 ls (z_i (2) :: st) w Q := z_gun ((zF300_9 684 (by decide)).trans rfl)
set_option maxRecDepth 100000 in
theorem g300_685 {d : Nat} {u : Nat × Nat} {ls st : List z_V} {w : z_W} {Q : z_P} {x y : Int} : z_G d u 300 685 ls (z_i y :: z_i x :: st) w Q ↔ z_G d u 300 686 ls (z_i (z_add x y) :: st) w Q := z_gun ((zF300_9 685 (by decide)).trans rfl)
set_option maxRecDepth 100000 in
theorem g300_686 {d : Nat} {u : Nat × Nat} {ls st : List z_V} {w : z_W} {Q : z_P} {p : Nat} {i : Int} : z_G d u 300 686 ls (z_i i :: z_r p :: st) w Q ↔ ((z_k w p = 100 ∨ z_k w p = 103) ∧ 0 ≤ i ∧ i < z_len w p ∧ (z_rg (z_I w p i) → z_G d u 300 687 ls (z_i (z_I w p i) :: st) w Q)) := z_gun ((zF300_9 686 (by decide)).trans rfl)
set_option maxRecDepth 100000 in
theorem g300_687 {d : Nat} {u : Nat × Nat} {ls st : List z_V} {w : z_W} {Q : z_P} {p : Nat} {x0 x1 : Int} : z_G (d + 1) u 300 687 ls (z_i x1 :: z_i x0 :: z_r p :: st) w Q ↔ (z_k w p = 11 ∧ z_c8 st 8 = true ∧ z_G d (0, 0) 134 0 [z_r p, z_i x0, z_i x1, z_x] [] w (fun r w' => z_G (d + 1) u 300 690 ls (r.toList ++ st) w' Q)) := z_gcaV (d := d) (m := 300) (pc := 687) (m' := 134) (k := 3) (nL := 4) (nx := 690) (ci := 11) (p := p) (u := u) (ls := ls) (st := st) (w := w) (Q := Q) (vs := [z_r p, z_i x0, z_i x1]) ((zF300_9 687 (by decide)).trans rfl) rfl rfl
set_option maxRecDepth 100000 in
theorem g300_690 {d : Nat} {u : Nat × Nat} {ls st : List z_V} {w : z_W} {Q : z_P} {x : Int} : z_G d u 300 690 ls (z_i x :: st) w Q ↔ z_G d u 300 691 ls st w Q := z_gun ((zF300_9 690 (by decide)).trans rfl)
set_option maxRecDepth 100000 in
theorem g300_690r {d : Nat} {u : Nat × Nat} {ls st : List z_V} {w : z_W} {Q : z_P} {k : Nat} : z_G d u 300 690 ls (z_r k :: st) w Q ↔ z_G d u 300 691 ls st w Q := z_gun ((zF300_9 690 (by decide)).trans rfl)
set_option maxRecDepth 100000 in
theorem g300_691 {d : Nat} {u : Nat × Nat} {ls st : List z_V} {w : z_W} {Q : z_P} {o : Option Nat} {a0 a1 : z_V} : z_G d u 300 691 (a0 :: a1 :: z_vr o :: ls) st w Q ↔ z_G d u 300 692 (a0 :: a1 :: z_vr o :: ls) (z_vr o :: st) w Q := z_gun ((zF300_9 691 (by decide)).trans rfl)
set_option maxRecDepth 100000 in
theorem g300_691r {d : Nat} {u : Nat × Nat} {ls st : List z_V} {w : z_W} {Q : z_P} {k : Nat} {a0 a1 : z_V} : z_G d u 300 691 (a0 :: a1 :: z_r k :: ls) st w Q ↔ z_G d u 300 692 (a0 :: a1 :: z_r k :: ls) (z_r k :: st) w Q := z_gun ((zF300_9 691 (by decide)).trans rfl)
set_option maxRecDepth 100000 in
theorem g300_692 {d : Nat} {u : Nat × Nat} {ls st : List z_V} {w : z_W} {Q : z_P} {o : Option Nat} : z_G d u 300 692 (z_vr o :: ls) st w Q ↔ z_G d u 300 693 (z_vr o :: ls) (z_vr o :: st) w Q := z_gun ((zF300_9 692 (by decide)).trans rfl)
set_option maxRecDepth 100000 in
theorem g300_692r {d : Nat} {u : Nat × Nat} {ls st : List z_V} {w : z_W} {Q : z_P} {k : Nat} : z_G d u 300 692 (z_r k :: ls) st w Q ↔ z_G d u 300 693 (z_r k :: ls) (z_r k :: st) w Q := z_gun ((zF300_9 692 (by decide)).trans rfl)
set_option maxRecDepth 100000 in
theorem g300_693 {d : Nat} {u : Nat × Nat} {ls st : List z_V} {w : z_W} {Q : z_P} {z : Int} {a0 a1 a2 a3 : z_V} : z_G d u 300 693 (a0 :: a1 :: a2 :: a3 :: z_i z :: ls) st w Q ↔ z_G d u 300 695 (a0 :: a1 :: a2 :: a3 :: z_i z :: ls) (z_i z :: st) w Q := z_gun ((zF300_9 693 (by decide)).trans rfl)
set_option maxRecDepth 100000 in
theorem g300_695 {d : Nat} {u : Nat × Nat} {ls st : List z_V} {w : z_W} {Q : z_P} : z_G d u 300 695 ls st w Q ↔ z_G d u 300 696 ls (z_i (1) :: st) w Q := z_gun ((zF300_9 695 (by decide)).trans rfl)
set_option maxRecDepth 100000 in
theorem g300_696 {d : Nat} {u : Nat × Nat} {ls st : List z_V} {w : z_W} {Q : z_P} {x y : Int} : z_G d u 300 696 ls (z_i y :: z_i x :: st) w Q ↔ z_G d u 300 697 ls (z_i (z_add x y) :: st) w Q := z_gun ((zF300_9 696 (by decide)).trans rfl)
set_option maxRecDepth 100000 in
theorem g300_697 {d : Nat} {u : Nat × Nat} {ls st : List z_V} {w : z_W} {Q : z_P} {p : Nat} {i : Int} : z_G d u 300 697 ls (z_i i :: z_r p :: st) w Q ↔ ((z_k w p = 100 ∨ z_k w p = 103) ∧ 0 ≤ i ∧ i < z_len w p ∧ (z_rg (z_I w p i) → z_G d u 300 698 ls (z_i (z_I w p i) :: st) w Q)) := z_gun ((zF300_9 697 (by decide)).trans rfl)
set_option maxRecDepth 100000 in
theorem g300_698 {d : Nat} {u : Nat × Nat} {ls st : List z_V} {w : z_W} {Q : z_P} {o : Option Nat} : z_G d u 300 698 (z_vr o :: ls) st w Q ↔ z_G d u 300 699 (z_vr o :: ls) (z_vr o :: st) w Q := z_gun ((zF300_9 698 (by decide)).trans rfl)
set_option maxRecDepth 100000 in
theorem g300_698r {d : Nat} {u : Nat × Nat} {ls st : List z_V} {w : z_W} {Q : z_P} {k : Nat} : z_G d u 300 698 (z_r k :: ls) st w Q ↔ z_G d u 300 699 (z_r k :: ls) (z_r k :: st) w Q := z_gun ((zF300_9 698 (by decide)).trans rfl)
set_option maxRecDepth 100000 in
theorem g300_699 {d : Nat} {u : Nat × Nat} {ls st : List z_V} {w : z_W} {Q : z_P} {z : Int} {a0 a1 a2 a3 : z_V} : z_G d u 300 699 (a0 :: a1 :: a2 :: a3 :: z_i z :: ls) st w Q ↔ z_G d u 300 701 (a0 :: a1 :: a2 :: a3 :: z_i z :: ls) (z_i z :: st) w Q := z_gun ((zF300_9 699 (by decide)).trans rfl)
set_option maxRecDepth 100000 in
theorem g300_701 {d : Nat} {u : Nat × Nat} {ls st : List z_V} {w : z_W} {Q : z_P} : z_G d u 300 701 ls st w Q ↔ z_G d u 300 702 ls (z_i (2) :: st) w Q := z_gun ((zF300_9 701 (by decide)).trans rfl)
set_option maxRecDepth 100000 in
theorem g300_702 {d : Nat} {u : Nat × Nat} {ls st : List z_V} {w : z_W} {Q : z_P} {x y : Int} : z_G d u 300 702 ls (z_i y :: z_i x :: st) w Q ↔ z_G d u 300 703 ls (z_i (z_add x y) :: st) w Q := z_gun ((zF300_9 702 (by decide)).trans rfl)
set_option maxRecDepth 100000 in
theorem g300_703 {d : Nat} {u : Nat × Nat} {ls st : List z_V} {w : z_W} {Q : z_P} {p : Nat} {i : Int} : z_G d u 300 703 ls (z_i i :: z_r p :: st) w Q ↔ ((z_k w p = 100 ∨ z_k w p = 103) ∧ 0 ≤ i ∧ i < z_len w p ∧ (z_rg (z_I w p i) → z_G d u 300 704 ls (z_i (z_I w p i) :: st) w Q)) := z_gun ((zF300_9 703 (by decide)).trans rfl)
set_option maxRecDepth 100000 in
theorem g300_704 {d : Nat} {u : Nat × Nat} {ls st : List z_V} {w : z_W} {Q : z_P} {p : Nat} {x0 x1 : Int} : z_G (d + 1) u 300 704 ls (z_i x1 :: z_i x0 :: z_r p :: st) w Q ↔ (z_k w p = 12 ∧ z_c8 st 8 = true ∧ z_G d (0, 0) 260 0 [z_r p, z_i x0, z_i x1] [] w (fun r w' => z_G (d + 1) u 300 707 ls (r.toList ++ st) w' Q)) := z_gcaV (d := d) (m := 300) (pc := 704) (m' := 260) (k := 3) (nL := 3) (nx := 707) (ci := 12) (p := p) (u := u) (ls := ls) (st := st) (w := w) (Q := Q) (vs := [z_r p, z_i x0, z_i x1]) ((zF300_9 704 (by decide)).trans rfl) rfl rfl
set_option maxRecDepth 100000 in
theorem g300_707 {d : Nat} {u : Nat × Nat} {ls st : List z_V} {w : z_W} {Q : z_P} {x : Int} : z_G d u 300 707 ls (z_i x :: st) w Q ↔ z_G d u 300 708 ls st w Q := z_gun ((zF300_9 707 (by decide)).trans rfl)
set_option maxRecDepth 100000 in
theorem g300_707r {d : Nat} {u : Nat × Nat} {ls st : List z_V} {w : z_W} {Q : z_P} {k : Nat} : z_G d u 300 707 ls (z_r k :: st) w Q ↔ z_G d u 300 708 ls st w Q := z_gun ((zF300_9 707 (by decide)).trans rfl)
set_option maxRecDepth 100000 in
theorem g300_708 {d : Nat} {u : Nat × Nat} {ls st : List z_V} {w : z_W} {Q : z_P} : z_G d u 300 708 ls st w Q ↔ z_G d u 300 1586 ls st w Q := z_gun ((zF300_9 708 (by decide)).trans rfl)
set_option maxRecDepth 100000 in
theorem g300_711 {d : Nat} {u : Nat × Nat} {ls st : List z_V} {w : z_W} {Q : z_P} {o : Option Nat} {a0 : z_V} : z_G d u 300 711 (a0 :: z_vr o :: ls) st w Q ↔ z_G d u 300 712 (a0 :: z_vr o :: ls) (z_vr o :: st) w Q := z_gun ((zF300_10 711 (by decide)).trans rfl)
set_option maxRecDepth 100000 in
theorem g300_711r {d : Nat} {u : Nat × Nat} {ls st : List z_V} {w : z_W} {Q : z_P} {k : Nat} {a0 : z_V} : z_G d u 300 711 (a0 :: z_r k :: ls) st w Q ↔ z_G d u 300 712 (a0 :: z_r k :: ls) (z_r k :: st) w Q := z_gun ((zF300_10 711 (by decide)).trans rfl)
set_option maxRecDepth 100000 in
theorem g300_712 {d : Nat} {u : Nat × Nat} {ls st : List z_V} {w : z_W} {Q : z_P} {o : Option Nat} : z_G d u 300 712 (z_vr o :: ls) st w Q ↔ z_G d u 300 713 (z_vr o :: ls) (z_vr o :: st) w Q := z_gun ((zF300_10 712 (by decide)).trans rfl)
set_option maxRecDepth 100000 in
theorem g300_712r {d : Nat} {u : Nat × Nat} {ls st : List z_V} {w : z_W} {Q : z_P} {k : Nat} : z_G d u 300 712 (z_r k :: ls) st w Q ↔ z_G d u 300 713 (z_r k :: ls) (z_r k :: st) w Q := z_gun ((zF300_10 712 (by decide)).trans rfl)
set_option maxRecDepth 100000 in
theorem g300_713 {d : Nat} {u : Nat × Nat} {ls st : List z_V} {w : z_W} {Q : z_P} {z : Int} {a0 a1 a2 a3 : z_V} : z_G d u 300 713 (a0 :: a1 :: a2 :: a3 :: z_i z :: ls) st w Q ↔ z_G d u 300 715 (a0 :: a1 :: a2 :: a3 :: z_i z :: ls) (z_i z :: st) w Q := z_gun ((zF300_10 713 (by decide)).trans rfl)
set_option maxRecDepth 100000 in
theorem g300_715 {d : Nat} {u : Nat × Nat} {ls st : List z_V} {w : z_W} {Q : z_P} : z_G d u 300 715 ls st w Q ↔ z_G d u 300 716 ls (z_i (1) :: st) w Q := z_gun ((zF300_10 715 (by decide)).trans rfl)
set_option maxRecDepth 100000 in
theorem g300_716 {d : Nat} {u : Nat × Nat} {ls st : List z_V} {w : z_W} {Q : z_P} {x y : Int} : z_G d u 300 716 ls (z_i y :: z_i x :: st) w Q ↔ z_G d u 300 717 ls (z_i (z_add x y) :: st) w Q := z_gun ((zF300_10 716 (by decide)).trans rfl)
set_option maxRecDepth 100000 in
theorem g300_717 {d : Nat} {u : Nat × Nat} {ls st : List z_V} {w : z_W} {Q : z_P} {p : Nat} {i : Int} : z_G d u 300 717 ls (z_i i :: z_r p :: st) w Q ↔ ((z_k w p = 100 ∨ z_k w p = 103) ∧ 0 ≤ i ∧ i < z_len w p ∧ (z_rg (z_I w p i) → z_G d u 300 718 ls (z_i (z_I w p i) :: st) w Q)) := z_gun ((zF300_10 717 (by decide)).trans rfl)
set_option maxRecDepth 100000 in
theorem g300_718 {d : Nat} {u : Nat × Nat} {ls st : List z_V} {w : z_W} {Q : z_P} {p : Nat} {x0 : Int} : z_G (d + 1) u 300 718 ls (z_i x0 :: z_r p :: st) w Q ↔ (z_k w p = 11 ∧ z_c8 st 8 = true ∧ z_G d (0, 0) 135 0 [z_r p, z_i x0] [] w (fun r w' => z_G (d + 1) u 300 721 ls (r.toList ++ st) w' Q)) := z_gcaV (d := d) (m := 300) (pc := 718) (m' := 135) (k := 2) (nL := 2) (nx := 721) (ci := 11) (p := p) (u := u) (ls := ls) (st := st) (w := w) (Q := Q) (vs := [z_r p, z_i x0]) ((zF300_10 718 (by decide)).trans rfl) rfl rfl
set_option maxRecDepth 100000 in
theorem g300_721 {d : Nat} {u : Nat × Nat} {ls st : List z_V} {w : z_W} {Q : z_P} {x : Int} : z_G d u 300 721 ls (z_i x :: st) w Q ↔ z_G d u 300 722 ls st w Q := z_gun ((zF300_10 721 (by decide)).trans rfl)
set_option maxRecDepth 100000 in
theorem g300_721r {d : Nat} {u : Nat × Nat} {ls st : List z_V} {w : z_W} {Q : z_P} {k : Nat} : z_G d u 300 721 ls (z_r k :: st) w Q ↔ z_G d u 300 722 ls st w Q := z_gun ((zF300_10 721 (by decide)).trans rfl)
set_option maxRecDepth 100000 in
theorem g300_722 {d : Nat} {u : Nat × Nat} {ls st : List z_V} {w : z_W} {Q : z_P} {o : Option Nat} {a0 a1 : z_V} : z_G d u 300 722 (a0 :: a1 :: z_vr o :: ls) st w Q ↔ z_G d u 300 723 (a0 :: a1 :: z_vr o :: ls) (z_vr o :: st) w Q := z_gun ((zF300_10 722 (by decide)).trans rfl)
set_option maxRecDepth 100000 in
theorem g300_722r {d : Nat} {u : Nat × Nat} {ls st : List z_V} {w : z_W} {Q : z_P} {k : Nat} {a0 a1 : z_V} : z_G d u 300 722 (a0 :: a1 :: z_r k :: ls) st w Q ↔ z_G d u 300 723 (a0 :: a1 :: z_r k :: ls) (z_r k :: st) w Q := z_gun ((zF300_10 722 (by decide)).trans rfl)
set_option maxRecDepth 100000 in
theorem g300_723 {d : Nat} {u : Nat × Nat} {ls st : List z_V} {w : z_W} {Q : z_P} {o : Option Nat} : z_G d u 300 723 (z_vr o :: ls) st w Q ↔ z_G d u 300 724 (z_vr o :: ls) (z_vr o :: st) w Q := z_gun ((zF300_10 723 (by decide)).trans rfl)
set_option maxRecDepth 100000 in
theorem g300_723r {d : Nat} {u : Nat × Nat} {ls st : List z_V} {w : z_W} {Q : z_P} {k : Nat} : z_G d u 300 723 (z_r k :: ls) st w Q ↔ z_G d u 300 724 (z_r k :: ls) (z_r k :: st) w Q := z_gun ((zF300_10 723 (by decide)).trans rfl)
set_option maxRecDepth 100000 in
theorem g300_724 {d : Nat} {u : Nat × Nat} {ls st : List z_V} {w : z_W} {Q : z_P} {z : Int} {a0 a1 a2 a3 : z_V} : z_G d u 300 724 (a0 :: a1 :: a2 :: a3 :: z_i z :: ls) st w Q ↔ z_G d u 300 726 (a0 :: a1 :: a2 :: a3 :: z_i z :: ls) (z_i z :: st) w Q := z_gun ((zF300_10 724 (by decide)).trans rfl)
set_option maxRecDepth 100000 in
theorem g300_726 {d : Nat} {u : Nat × Nat} {ls st : List z_V} {w : z_W} {Q : z_P} : z_G d u 300 726 ls st w Q ↔ z_G d u 300 727 ls (z_i (1) :: st) w Q := z_gun ((zF300_10 726 (by decide)).trans rfl)
set_option maxRecDepth 100000 in
theorem g300_727 {d : Nat} {u : Nat × Nat} {ls st : List z_V} {w : z_W} {Q : z_P} {x y : Int} : z_G d u 300 727 ls (z_i y :: z_i x :: st) w Q ↔ z_G d u 300 728 ls (z_i (z_add x y) :: st) w Q := z_gun ((zF300_10 727 (by decide)).trans rfl)
set_option maxRecDepth 100000 in
theorem g300_728 {d : Nat} {u : Nat × Nat} {ls st : List z_V} {w : z_W} {Q : z_P} {p : Nat} {i : Int} : z_G d u 300 728 ls (z_i i :: z_r p :: st) w Q ↔ ((z_k w p = 100 ∨ z_k w p = 103) ∧ 0 ≤ i ∧ i < z_len w p ∧ (z_rg (z_I w p i) → z_G d u 300 729 ls (z_i (z_I w p i) :: st) w Q)) := z_gun ((zF300_10 728 (by decide)).trans rfl)
set_option maxRecDepth 100000 in
theorem g300_729 {d : Nat} {u : Nat × Nat} {ls st : List z_V} {w : z_W} {Q : z_P} {p : Nat} {x0 : Int} : z_G (d + 1) u 300 729 ls (z_i x0 :: z_r p :: st) w Q ↔ (z_k w p = 12 ∧ z_c8 st 8 = true ∧ z_G d (0, 0) 261 0 [z_r p, z_i x0] [] w (fun r w' => z_G (d + 1) u 300 732 ls (r.toList ++ st) w' Q)) := z_gcaV (d := d) (m := 300) (pc := 729) (m' := 261) (k := 2) (nL := 2) (nx := 732) (ci := 12) (p := p) (u := u) (ls := ls) (st := st) (w := w) (Q := Q) (vs := [z_r p, z_i x0]) ((zF300_10 729 (by decide)).trans rfl) rfl rfl
set_option maxRecDepth 100000 in
theorem g300_732 {d : Nat} {u : Nat × Nat} {ls st : List z_V} {w : z_W} {Q : z_P} {x : Int} : z_G d u 300 732 ls (z_i x :: st) w Q ↔ z_G d u 300 733 ls st w Q := z_gun ((zF300_10 732 (by decide)).trans rfl)
set_option maxRecDepth 100000 in
theorem g300_732r {d : Nat} {u : Nat × Nat} {ls st : List z_V} {w : z_W} {Q : z_P} {k : Nat} : z_G d u 300 732 ls (z_r k :: st) w Q ↔ z_G d u 300 733 ls st w Q := z_gun ((zF300_10 732 (by decide)).trans rfl)
set_option maxRecDepth 100000 in
theorem g300_733 {d : Nat} {u : Nat × Nat} {ls st : List z_V} {w : z_W} {Q : z_P} : z_G d u 300 733 ls st w Q ↔ z_G d u 300 1586 ls st w Q := z_gun ((zF300_10 733 (by decide)).trans rfl)
set_option maxRecDepth 100000 in
theorem g300_736 {d : Nat} {u : Nat × Nat} {ls st : List z_V} {w : z_W} {Q : z_P} {o : Option Nat} {a0 : z_V} : z_G d u 300 736 (a0 :: z_vr o :: ls) st w Q ↔ z_G d u 300 737 (a0 :: z_vr o :: ls) (z_vr o :: st) w Q := z_gun ((zF300_10 736 (by decide)).trans rfl)
set_option maxRecDepth 100000 in
theorem g300_736r {d : Nat} {u : Nat × Nat} {ls st : List z_V} {w : z_W} {Q : z_P} {k : Nat} {a0 : z_V} : z_G d u 300 736 (a0 :: z_r k :: ls) st w Q ↔ z_G d u 300 737 (a0 :: z_r k :: ls) (z_r k :: st) w Q := z_gun ((zF300_10 736 (by decide)).trans rfl)
set_option maxRecDepth 100000 in
theorem g300_737 {d : Nat} {u : Nat × Nat} {ls st : List z_V} {w : z_W} {Q : z_P} {o : Option Nat} : z_G d u 300 737 (z_vr o :: ls) st w Q ↔ z_G d u 300 738 (z_vr o :: ls) (z_vr o :: st) w Q := z_gun ((zF300_10 737 (by decide)).trans rfl)
set_option maxRecDepth 100000 in
theorem g300_737r {d : Nat} {u : Nat × Nat} {ls st : List z_V} {w : z_W} {Q : z_P} {k : Nat} : z_G d u 300 737 (z_r k :: ls) st w Q ↔ z_G d u 300 738 (z_r k :: ls) (z_r k :: st) w Q := z_gun ((zF300_10 737 (by decide)).trans rfl)
set_option maxRecDepth 100000 in
theorem g300_738 {d : Nat} {u : Nat × Nat} {ls st : List z_V} {w : z_W} {Q : z_P} {z : Int} {a0 a1 a2 a3 : z_V} : z_G d u 300 738 (a0 :: a1 :: a2 :: a3 :: z_i z :: ls) st w Q ↔ z_G d u 300 740 (a0 :: a1 :: a2 :: a3 :: z_i z :: ls) (z_i z :: st) w Q := z_gun ((zF300_10 738 (by decide)).trans rfl)
set_option maxRecDepth 100000 in
theorem g300_740 {d : Nat} {u : Nat × Nat} {ls st : List z_V} {w : z_W} {Q : z_P} : z_G d u 300 740 ls st w Q ↔ z_G d u 300 741 ls (z_i (1) :: st) w Q := z_gun ((zF300_10 740 (by decide)).trans rfl)
set_option maxRecDepth 100000 in
theorem g300_741 {d : Nat} {u : Nat × Nat} {ls st : List z_V} {w : z_W} {Q : z_P} {x y : Int} : z_G d u 300 741 ls (z_i y :: z_i x :: st) w Q ↔ z_G d u 300 742 ls (z_i (z_add x y) :: st) w Q := z_gun ((zF300_10 741 (by decide)).trans rfl)
set_option maxRecDepth 100000 in
theorem g300_742 {d : Nat} {u : Nat × Nat} {ls st : List z_V} {w : z_W} {Q : z_P} {p : Nat} {i : Int} : z_G d u 300 742 ls (z_i i :: z_r p :: st) w Q ↔ ((z_k w p = 100 ∨ z_k w p = 103) ∧ 0 ≤ i ∧ i < z_len w p ∧ (z_rg (z_I w p i) → z_G d u 300 743 ls (z_i (z_I w p i) :: st) w Q)) := z_gun ((zF300_10 742 (by decide)).trans rfl)
set_option maxRecDepth 100000 in
theorem g300_743 {d : Nat} {u : Nat × Nat} {ls st : List z_V} {w : z_W} {Q : z_P} {p : Nat} {x0 : Int} : z_G (d + 1) u 300 743 ls (z_i x0 :: z_r p :: st) w Q ↔ (z_k w p = 11 ∧ z_c8 st 8 = true ∧ z_G d (0, 0) 136 0 [z_r p, z_i x0] [] w (fun r w' => z_G (d + 1) u 300 746 ls (r.toList ++ st) w' Q)) := z_gcaV (d := d) (m := 300) (pc := 743) (m' := 136) (k := 2) (nL := 2) (nx := 746) (ci := 11) (p := p) (u := u) (ls := ls) (st := st) (w := w) (Q := Q) (vs := [z_r p, z_i x0]) ((zF300_10 743 (by decide)).trans rfl) rfl rfl
set_option maxRecDepth 100000 in
theorem g300_746 {d : Nat} {u : Nat × Nat} {ls st : List z_V} {w : z_W} {Q : z_P} {x : Int} : z_G d u 300 746 ls (z_i x :: st) w Q ↔ z_G d u 300 747 ls st w Q := z_gun ((zF300_10 746 (by decide)).trans rfl)
set_option maxRecDepth 100000 in
theorem g300_746r {d : Nat} {u : Nat × Nat} {ls st : List z_V} {w : z_W} {Q : z_P} {k : Nat} : z_G d u 300 746 ls (z_r k :: st) w Q ↔ z_G d u 300 747 ls st w Q := z_gun ((zF300_10 746 (by decide)).trans rfl)
set_option maxRecDepth 100000 in
theorem g300_747 {d : Nat} {u : Nat × Nat} {ls st : List z_V} {w : z_W} {Q : z_P} {o : Option Nat} {a0 a1 : z_V} : z_G d u 300 747 (a0 :: a1 :: z_vr o :: ls) st w Q ↔ z_G d u 300 748 (a0 :: a1 :: z_vr o :: ls) (z_vr o :: st) w Q := z_gun ((zF300_10 747 (by decide)).trans rfl)
set_option maxRecDepth 100000 in
theorem g300_747r {d : Nat} {u : Nat × Nat} {ls st : List z_V} {w : z_W} {Q : z_P} {k : Nat} {a0 a1 : z_V} : z_G d u 300 747 (a0 :: a1 :: z_r k :: ls) st w Q ↔ z_G d u 300 748 (a0 :: a1 :: z_r k :: ls) (z_r k :: st) w Q := z_gun ((zF300_10 747 (by decide)).trans rfl)
set_option maxRecDepth 100000 in
theorem g300_748 {d : Nat} {u : Nat × Nat} {ls st : List z_V} {w : z_W} {Q : z_P} {o : Option Nat} : z_G d u 300 748 (z_vr o :: ls) st w Q ↔ z_G d u 300 749 (z_vr o :: ls) (z_vr o :: st) w Q := z_gun ((zF300_10 748 (by decide)).trans rfl)
set_option maxRecDepth 100000 in
theorem g300_748r {d : Nat} {u : Nat × Nat} {ls st : List z_V} {w : z_W} {Q : z_P} {k : Nat} : z_G d u 300 748 (z_r k :: ls) st w Q ↔ z_G d u 300 749 (z_r k :: ls) (z_r k :: st) w Q := z_gun ((zF300_10 748 (by decide)).trans rfl)
set_option maxRecDepth 100000 in
theorem g300_749 {d : Nat} {u : Nat × Nat} {ls st : List z_V} {w : z_W} {Q : z_P} {z : Int} {a0 a1 a2 a3 : z_V} : z_G d u 300 749 (a0 :: a1 :: a2 :: a3 :: z_i z :: ls) st w Q ↔ z_G d u 300 751 (a0 :: a1 :: a2 :: a3 :: z_i z :: ls) (z_i z :: st) w Q := z_gun ((zF300_10 749 (by decide)).trans rfl)
set_option maxRecDepth 100000 in
theorem g300_751 {d : Nat} {u : Nat × Nat} {ls st : List z_V} {w : z_W} {Q : z_P} : z_G d u 300 751 ls st w Q ↔ z_G d u 300 752 ls (z_i (1) :: st) w Q := z_gun ((zF300_10 751 (by decide)).trans rfl)
set_option maxRecDepth 100000 in
theorem g300_752 {d : Nat} {u : Nat × Nat} {ls st : List z_V} {w : z_W} {Q : z_P} {x y : Int} : z_G d u 300 752 ls (z_i y :: z_i x :: st) w Q ↔ z_G d u 300 753 ls (z_i (z_add x y) :: st) w Q := z_gun ((zF300_10 752 (by decide)).trans rfl)
set_option maxRecDepth 100000 in
theorem g300_753 {d : Nat} {u : Nat × Nat} {ls st : List z_V} {w : z_W} {Q : z_P} {p : Nat} {i : Int} : z_G d u 300 753 ls (z_i i :: z_r p :: st) w Q ↔ ((z_k w p = 100 ∨ z_k w p = 103) ∧ 0 ≤ i ∧ i < z_len w p ∧ (z_rg (z_I w p i) → z_G d u 300 754 ls (z_i (z_I w p i) :: st) w Q)) := z_gun ((zF300_10 753 (by decide)).trans rfl)
set_option maxRecDepth 100000 in
theorem g300_754 {d : Nat} {u : Nat × Nat} {ls st : List z_V} {w : z_W} {Q : z_P} {p : Nat} {x0 : Int} : z_G (d + 1) u 300 754 ls (z_i x0 :: z_r p :: st) w Q ↔ (z_k w p = 12 ∧ z_c8 st 8 = true ∧ z_G d (0, 0) 262 0 [z_r p, z_i x0, z_x] [] w (fun r w' => z_G (d + 1) u 300 757 ls (r.toList ++ st) w' Q)) := z_gcaV (d := d) (m := 300) (pc := 754) (m' := 262) (k := 2) (nL := 3) (nx := 757) (ci := 12) (p := p) (u := u) (ls := ls) (st := st) (w := w) (Q := Q) (vs := [z_r p, z_i x0]) ((zF300_10 754 (by decide)).trans rfl) rfl rfl
set_option maxRecDepth 100000 in
theorem g300_757 {d : Nat} {u : Nat × Nat} {ls st : List z_V} {w : z_W} {Q : z_P} {x : Int} : z_G d u 300 757 ls (z_i x :: st) w Q ↔ z_G d u 300 758 ls st w Q := z_gun ((zF300_10 757 (by decide)).trans rfl)
set_option maxRecDepth 100000 in
theorem g300_757r {d : Nat} {u : Nat × Nat} {ls st : List z_V} {w : z_W} {Q : z_P} {k : Nat} : z_G d u 300 757 ls (z_r k :: st) w Q ↔ z_G d u 300 758 ls st w Q := z_gun ((zF300_10 757 (by decide)).trans rfl)
set_option maxRecDepth 100000 in
theorem g300_758 {d : Nat} {u : Nat × Nat} {ls st : List z_V} {w : z_W} {Q : z_P} : z_G d u 300 758 ls st w Q ↔ z_G d u 300 1586 ls st w Q := z_gun ((zF300_10 758 (by decide)).trans rfl)
set_option maxRecDepth 100000 in
theorem g300_761 {d : Nat} {u : Nat × Nat} {ls st : List z_V} {w : z_W} {Q : z_P} {o : Option Nat} {a0 : z_V} : z_G d u 300 761 (a0 :: z_vr o :: ls) st w Q ↔ z_G d u 300 762 (a0 :: z_vr o :: ls) (z_vr o :: st) w Q := z_gun ((zF300_10 761 (by decide)).trans rfl)
set_option maxRecDepth 100000 in
theorem g300_761r {d : Nat} {u : Nat × Nat} {ls st : List z_V} {w : z_W} {Q : z_P} {k : Nat} {a0 : z_V} : z_G d u 300 761 (a0 :: z_r k :: ls) st w Q ↔ z_G d u 300 762 (a0 :: z_r k :: ls) (z_r k :: st) w Q := z_gun ((zF300_10 761 (by decide)).trans rfl)
set_option maxRecDepth 100000 in
theorem g300_762 {d : Nat} {u : Nat × Nat} {ls st : List z_V} {w : z_W} {Q : z_P} {o : Option Nat} : z_G d u 300 762 (z_vr o :: ls) st w Q ↔ z_G d u 300 763 (z_vr o :: ls) (z_vr o :: st) w Q := z_gun ((zF300_10 762 (by decide)).trans rfl)
set_option maxRecDepth 100000 in
theorem g300_762r {d : Nat} {u : Nat × Nat} {ls st : List z_V} {w : z_W} {Q : z_P} {k : Nat} : z_G d u 300 762 (z_r k :: ls) st w Q ↔ z_G d u 300 763 (z_r k :: ls) (z_r k :: st) w Q := z_gun ((zF300_10 762 (by decide)).trans rfl)
set_option maxRecDepth 100000 in
theorem g300_763 {d : Nat} {u : Nat × Nat} {ls st : List z_V} {w : z_W} {Q : z_P} {z : Int} {a0 a1 a2 a3 : z_V} : z_G d u 300 763 (a0 :: a1 :: a2 :: a3 :: z_i z :: ls) st w Q ↔ z_G d u 300 765 (a0 :: a1 :: a2 :: a3 :: z_i z :: ls) (z_i z :: st) w Q := z_gun ((zF300_10 763 (by decide)).trans rfl)
set_option maxRecDepth 100000 in
theorem g300_765 {d : Nat} {u : Nat × Nat} {ls st : List z_V} {w : z_W} {Q : z_P} : z_G d u 300 765 ls st w Q ↔ z_G d u 300 766 ls (z_i (1) :: st) w Q := z_gun ((zF300_10 765 (by decide)).trans rfl)
set_option maxRecDepth 100000 in
theorem g300_766 {d : Nat} {u : Nat × Nat} {ls st : List z_V} {w : z_W} {Q : z_P} {x y : Int} : z_G d u 300 766 ls (z_i y :: z_i x :: st) w Q ↔ z_G d u 300 767 ls (z_i (z_add x y) :: st) w Q := z_gun ((zF300_10 766 (by decide)).trans rfl)
set_option maxRecDepth 100000 in
theorem g300_767 {d : Nat} {u : Nat × Nat} {ls st : List z_V} {w : z_W} {Q : z_P} {p : Nat} {i : Int} : z_G d u 300 767 ls (z_i i :: z_r p :: st) w Q ↔ ((z_k w p = 100 ∨ z_k w p = 103) ∧ 0 ≤ i ∧ i < z_len w p ∧ (z_rg (z_I w p i) → z_G d u 300 768 ls (z_i (z_I w p i) :: st) w Q)) := z_gun ((zF300_10 767 (by decide)).trans rfl)
set_option maxRecDepth 100000 in
theorem g300_768 {d : Nat} {u : Nat × Nat} {ls st : List z_V} {w : z_W} {Q : z_P} {o : Option Nat} : z_G d u 300 768 (z_vr o :: ls) st w Q ↔ z_G d u 300 769 (z_vr o :: ls) (z_vr o :: st) w Q := z_gun ((zF300_11 768 (by decide)).trans rfl)
set_option maxRecDepth 100000 in
theorem g300_768r {d : Nat} {u : Nat × Nat} {ls st : List z_V} {w : z_W} {Q : z_P} {k : Nat} : z_G d u 300 768 (z_r k :: ls) st w Q ↔ z_G d u 300 769 (z_r k :: ls) (z_r k :: st) w Q := z_gun ((zF300_11 768 (by decide)).trans rfl)
set_option maxRecDepth 100000 in
theorem g300_769 {d : Nat} {u : Nat × Nat} {ls st : List z_V} {w : z_W} {Q : z_P} {z : Int} {a0 a1 a2 a3 : z_V} : z_G d u 300 769 (a0 :: a1 :: a2 :: a3 :: z_i z :: ls) st w Q ↔ z_G d u 300 771 (a0 :: a1 :: a2 :: a3 :: z_i z :: ls) (z_i z :: st) w Q := z_gun ((zF300_11 769 (by decide)).trans rfl)
set_option maxRecDepth 100000 in
theorem g300_771 {d : Nat} {u : Nat × Nat} {ls st : List z_V} {w : z_W} {Q : z_P} : z_G d u 300 771 ls st w Q ↔ z_G d u 300 772 ls (z_i (2) :: st) w Q := z_gun ((zF300_11 771 (by decide)).trans rfl)
set_option maxRecDepth 100000 in
theorem g300_772 {d : Nat} {u : Nat × Nat} {ls st : List z_V} {w : z_W} {Q : z_P} {x y : Int} : z_G d u 300 772 ls (z_i y :: z_i x :: st) w Q ↔ z_G d u 300 773 ls (z_i (z_add x y) :: st) w Q := z_gun ((zF300_11 772 (by decide)).trans rfl)
set_option maxRecDepth 100000 in
theorem g300_773 {d : Nat} {u : Nat × Nat} {ls st : List z_V} {w : z_W} {Q : z_P} {p : Nat} {i : Int} : z_G d u 300 773 ls (z_i i :: z_r p :: st) w Q ↔ ((z_k w p = 100 ∨ z_k w p = 103) ∧ 0 ≤ i ∧ i < z_len w p ∧ (z_rg (z_I w p i) → z_G d u 300 774 ls (z_i (z_I w p i) :: st) w Q)) := z_gun ((zF300_11 773 (by decide)).trans rfl)
set_option maxRecDepth 100000 in
theorem g300_774 {d : Nat} {u : Nat × Nat} {ls st : List z_V} {w : z_W} {Q : z_P} {o : Option Nat} : z_G d u 300 774 (z_vr o :: ls) st w Q ↔ z_G d u 300 775 (z_vr o :: ls) (z_vr o :: st) w Q := z_gun ((zF300_11 774 (by decide)).trans rfl)
set_option maxRecDepth 100000 in
theorem g300_774r {d : Nat} {u : Nat × Nat} {ls st : List z_V} {w : z_W} {Q : z_P} {k : Nat} : z_G d u 300 774 (z_r k :: ls) st w Q ↔ z_G d u 300 775 (z_r k :: ls) (z_r k :: st) w Q := z_gun ((zF300_11 774 (by decide)).trans rfl)
set_option maxRecDepth 100000 in
theorem g300_775 {d : Nat} {u : Nat × Nat} {ls st : List z_V} {w : z_W} {Q : z_P} {z : Int} {a0 a1 a2 a3 : z_V} : z_G d u 300 775 (a0 :: a1 :: a2 :: a3 :: z_i z :: ls) st w Q ↔ z_G d u 300 777 (a0 :: a1 :: a2 :: a3 :: z_i z :: ls) (z_i z :: st) w Q := z_gun ((zF300_11 775 (by decide)).trans rfl)
set_option maxRecDepth 100000 in
theorem g300_777 {d : Nat} {u : Nat × Nat} {ls st : List z_V} {w : z_W} {Q : z_P} : z_G d u 300 777 ls st w Q ↔ z_G d u 300 778 ls (z_i (3) :: st) w Q := z_gun ((zF300_11 777 (by decide)).trans rfl)
set_option maxRecDepth 100000 in
theorem g300_778 {d : Nat} {u : Nat × Nat} {ls st : List z_V} {w : z_W} {Q : z_P} {x y : Int} : z_G d u 300 778 ls (z_i y :: z_i x :: st) w Q ↔ z_G d u 300 779 ls (z_i (z_add x y) :: st) w Q := z_gun ((zF300_11 778 (by decide)).trans rfl)
set_option maxRecDepth 100000 in
theorem g300_779 {d : Nat} {u : Nat × Nat} {ls st : List z_V} {w : z_W} {Q : z_P} {p : Nat} {i : Int} : z_G d u 300 779 ls (z_i i :: z_r p :: st) w Q ↔ ((z_k w p = 100 ∨ z_k w p = 103) ∧ 0 ≤ i ∧ i < z_len w p ∧ (z_rg (z_I w p i) → z_G d u 300 780 ls (z_i (z_I w p i) :: st) w Q)) := z_gun ((zF300_11 779 (by decide)).trans rfl)
set_option maxRecDepth 100000 in
theorem g300_780 {d : Nat} {u : Nat × Nat} {ls st : List z_V} {w : z_W} {Q : z_P} {o : Option Nat} : z_G d u 300 780 (z_vr o :: ls) st w Q ↔ z_G d u 300 781 (z_vr o :: ls) (z_vr o :: st) w Q := z_gun ((zF300_11 780 (by decide)).trans rfl)
set_option maxRecDepth 100000 in
theorem g300_780r {d : Nat} {u : Nat × Nat} {ls st : List z_V} {w : z_W} {Q : z_P} {k : Nat} : z_G d u 300 780 (z_r k :: ls) st w Q ↔ z_G d u 300 781 (z_r k :: ls) (z_r k :: st) w Q := z_gun ((zF300_11 780 (by decide)).trans rfl)
set_option maxRecDepth 100000 in
theorem g300_781 {d : Nat} {u : Nat × Nat} {ls st : List z_V} {w : z_W} {Q : z_P} {z : Int} {a0 a1 a2 a3 : z_V} : z_G d u 300 781 (a0 :: a1 :: a2 :: a3 :: z_i z :: ls) st w Q ↔ z_G d u 300 783 (a0 :: a1 :: a2 :: a3 :: z_i z :: ls) (z_i z :: st) w Q := z_gun ((zF300_11 781 (by decide)).trans rfl)
set_option maxRecDepth 100000 in
theorem g300_783 {d : Nat} {u : Nat × Nat} {ls st : List z_V} {w : z_W} {Q : z_P} : z_G d u 300 783 ls st w Q ↔ z_G d u 300 784 ls (z_i (4) :: st) w Q := z_gun ((zF300_11 783 (by decide)).trans rfl)
set_option maxRecDepth 100000 in
theorem g300_784 {d : Nat} {u : Nat × Nat} {ls st : List z_V} {w : z_W} {Q : z_P} {x y : Int} : z_G d u 300 784 ls (z_i y :: z_i x :: st) w Q ↔ z_G d u 300 785 ls (z_i (z_add x y) :: st) w Q := z_gun ((zF300_11 784 (by decide)).trans rfl)
set_option maxRecDepth 100000 in
theorem g300_785 {d : Nat} {u : Nat × Nat} {ls st : List z_V} {w : z_W} {Q : z_P} {p : Nat} {i : Int} : z_G d u 300 785 ls (z_i i :: z_r p :: st) w Q ↔ ((z_k w p = 100 ∨ z_k w p = 103) ∧ 0 ≤ i ∧ i < z_len w p ∧ (z_rg (z_I w p i) → z_G d u 300 786 ls (z_i (z_I w p i) :: st) w Q)) := z_gun ((zF300_11 785 (by decide)).trans rfl)
set_option maxRecDepth 100000 in
theorem g300_786 {d : Nat} {u : Nat × Nat} {ls st : List z_V} {w : z_W} {Q : z_P} {o : Option Nat} : z_G d u 300 786 (z_vr o :: ls) st w Q ↔ z_G d u 300 787 (z_vr o :: ls) (z_vr o :: st) w Q := z_gun ((zF300_11 786 (by decide)).trans rfl)
set_option maxRecDepth 100000 in
theorem g300_786r {d : Nat} {u : Nat × Nat} {ls st : List z_V} {w : z_W} {Q : z_P} {k : Nat} : z_G d u 300 786 (z_r k :: ls) st w Q ↔ z_G d u 300 787 (z_r k :: ls) (z_r k :: st) w Q := z_gun ((zF300_11 786 (by decide)).trans rfl)
set_option maxRecDepth 100000 in
theorem g300_787 {d : Nat} {u : Nat × Nat} {ls st : List z_V} {w : z_W} {Q : z_P} {z : Int} {a0 a1 a2 a3 : z_V} : z_G d u 300 787 (a0 :: a1 :: a2 :: a3 :: z_i z :: ls) st w Q ↔ z_G d u 300 789 (a0 :: a1 :: a2 :: a3 :: z_i z :: ls) (z_i z :: st) w Q := z_gun ((zF300_11 787 (by decide)).trans rfl)
set_option maxRecDepth 100000 in
theorem g300_789 {d : Nat} {u : Nat × Nat} {ls st : List z_V} {w : z_W} {Q : z_P} : z_G d u 300 789 ls st w Q ↔ z_G d u 300 790 ls (z_i (5) :: st) w Q := z_gun ((zF300_11 789 (by decide)).trans rfl)
set_option maxRecDepth 100000 in
theorem g300_790 {d : Nat} {u : Nat × Nat} {ls st : List z_V} {w : z_W} {Q : z_P} {x y : Int} : z_G d u 300 790 ls (z_i y :: z_i x :: st) w Q ↔ z_G d u 300 791 ls (z_i (z_add x y) :: st) w Q := z_gun ((zF300_11 790 (by decide)).trans rfl)
set_option maxRecDepth 100000 in
theorem g300_791 {d : Nat} {u : Nat × Nat} {ls st : List z_V} {w : z_W} {Q : z_P} {p : Nat} {i : Int} : z_G d u 300 791 ls (z_i i :: z_r p :: st) w Q ↔ ((z_k w p = 100 ∨ z_k w p = 103) ∧ 0 ≤ i ∧ i < z_len w p ∧ (z_rg (z_I w p i) → z_G d u 300 792 ls (z_i (z_I w p i) :: st) w Q)) := z_gun ((zF300_11 791 (by decide)).trans rfl)
set_option maxRecDepth 100000 in
theorem g300_792 {d : Nat} {u : Nat × Nat} {ls st : List z_V} {w : z_W} {Q : z_P} {p : Nat} {x0 x1 x2 x3 x4 : Int} : z_G (d + 1) u 300 792 ls (z_i x4 :: z_i x3 :: z_i x2 :: z_i x1 :: z_i x0 :: z_r p :: st) w Q ↔ (z_k w p = 11 ∧ z_c8 st 8 = true ∧ z_G d (0, 0) 137 0 [z_r p, z_i x0, z_i x1, z_i x2, z_i x3, z_i x4] [] w (fun r w' => z_G (d + 1) u 300 795 ls (r.toList ++ st) w' Q)) := z_gcaV (d := d) (m := 300) (pc := 792) (m' := 137) (k := 6) (nL := 6) (nx := 795) (ci := 11) (p := p) (u := u) (ls := ls) (st := st) (w := w) (Q := Q) (vs := [z_r p, z_i x0, z_i x1, z_i x2, z_i x3, z_i x4]) ((zF300_11 792 (by decide)).trans rfl) rfl rfl
set_option maxRecDepth 100000 in
theorem g300_795 {d : Nat} {u : Nat × Nat} {ls st : List z_V} {w : z_W} {Q : z_P} {x : Int} : z_G d u 300 795 ls (z_i x :: st) w Q ↔ z_G d u 300 796 ls st w Q := z_gun ((zF300_11 795 (by decide)).trans rfl)
set_option maxRecDepth 100000 in
theorem g300_795r {d : Nat} {u : Nat × Nat} {ls st : List z_V} {w : z_W} {Q : z_P} {k : Nat} : z_G d u 300 795 ls (z_r k :: st) w Q ↔ z_G d u 300 796 ls st w Q := z_gun ((zF300_11 795 (by decide)).trans rfl)
set_option maxRecDepth 100000 in
theorem g300_796 {d : Nat} {u : Nat × Nat} {ls st : List z_V} {w : z_W} {Q : z_P} {o : Option Nat} {a0 a1 : z_V} : z_G d u 300 796 (a0 :: a1 :: z_vr o :: ls) st w Q ↔ z_G d u 300 797 (a0 :: a1 :: z_vr o :: ls) (z_vr o :: st) w Q := z_gun ((zF300_11 796 (by decide)).trans rfl)
set_option maxRecDepth 100000 in
theorem g300_796r {d : Nat} {u : Nat × Nat} {ls st : List z_V} {w : z_W} {Q : z_P} {k : Nat} {a0 a1 : z_V} : z_G d u 300 796 (a0 :: a1 :: z_r k :: ls) st w Q ↔ z_G d u 300 797 (a0 :: a1 :: z_r k :: ls) (z_r k :: st) w Q := z_gun ((zF300_11 796 (by decide)).trans rfl)
set_option maxRecDepth 100000 in
theorem g300_797 {d : Nat} {u : Nat × Nat} {ls st : List z_V} {w : z_W} {Q : z_P} {o : Option Nat} : z_G d u 300 797 (z_vr o :: ls) st w Q ↔ z_G d u 300 798 (z_vr o :: ls) (z_vr o :: st) w Q := z_gun ((zF300_11 797 (by decide)).trans rfl)
set_option maxRecDepth 100000 in
theorem g300_797r {d : Nat} {u : Nat × Nat} {ls st : List z_V} {w : z_W} {Q : z_P} {k : Nat} : z_G d u 300 797 (z_r k :: ls) st w Q ↔ z_G d u 300 798 (z_r k :: ls) (z_r k :: st) w Q := z_gun ((zF300_11 797 (by decide)).trans rfl)
set_option maxRecDepth 100000 in
theorem g300_798 {d : Nat} {u : Nat × Nat} {ls st : List z_V} {w : z_W} {Q : z_P} {z : Int} {a0 a1 a2 a3 : z_V} : z_G d u 300 798 (a0 :: a1 :: a2 :: a3 :: z_i z :: ls) st w Q ↔ z_G d u 300 800 (a0 :: a1 :: a2 :: a3 :: z_i z :: ls) (z_i z :: st) w Q := z_gun ((zF300_11 798 (by decide)).trans rfl)
set_option maxRecDepth 100000 in
theorem g300_800 {d : Nat} {u : Nat × Nat} {ls st : List z_V} {w : z_W} {Q : z_P} : z_G d u 300 800 ls st w Q ↔ z_G d u 300 801 ls (z_i (1) :: st) w Q := z_gun ((zF300_11 800 (by decide)).trans rfl)
set_option maxRecDepth 100000 in
theorem g300_801 {d : Nat} {u : Nat × Nat} {ls st : List z_V} {w : z_W} {Q : z_P} {x y : Int} : z_G d u 300 801 ls (z_i y :: z_i x :: st) w Q ↔ z_G d u 300 802 ls (z_i (z_add x y) :: st) w Q := z_gun ((zF300_11 801 (by decide)).trans rfl)
set_option maxRecDepth 100000 in
theorem g300_802 {d : Nat} {u : Nat × Nat} {ls st : List z_V} {w : z_W} {Q : z_P} {p : Nat} {i : Int} : z_G d u 300 802 ls (z_i i :: z_r p :: st) w Q ↔ ((z_k w p = 100 ∨ z_k w p = 103) ∧ 0 ≤ i ∧ i < z_len w p ∧ (z_rg (z_I w p i) → z_G d u 300 803 ls (z_i (z_I w p i) :: st) w Q)) := z_gun ((zF300_11 802 (by decide)).trans rfl)
set_option maxRecDepth 100000 in
theorem g300_803 {d : Nat} {u : Nat × Nat} {ls st : List z_V} {w : z_W} {Q : z_P} {o : Option Nat} : z_G d u 300 803 (z_vr o :: ls) st w Q ↔ z_G d u 300 804 (z_vr o :: ls) (z_vr o :: st) w Q := z_gun ((zF300_11 803 (by decide)).trans rfl)
set_option maxRecDepth 100000 in
theorem g300_803r {d : Nat} {u : Nat × Nat} {ls st : List z_V} {w : z_W} {Q : z_P} {k : Nat} : z_G d u 300 803 (z_r k :: ls) st w Q ↔ z_G d u 300 804 (z_r k :: ls) (z_r k :: st) w Q := z_gun ((zF300_11 803 (by decide)).trans rfl)
set_option maxRecDepth 100000 in
theorem g300_804 {d : Nat} {u : Nat × Nat} {ls st : List z_V} {w : z_W} {Q : z_P} {z : Int} {a0 a1 a2 a3 : z_V} : z_G d u 300 804 (a0 :: a1 :: a2 :: a3 :: z_i z :: ls) st w Q ↔ z_G d u 300 806 (a0 :: a1 :: a2 :: a3 :: z_i z :: ls) (z_i z :: st) w Q := z_gun ((zF300_11 804 (by decide)).trans rfl)
set_option maxRecDepth 100000 in
theorem g300_806 {d : Nat} {u : Nat × Nat} {ls st : List z_V} {w : z_W} {Q : z_P} : z_G d u 300 806 ls st w Q ↔ z_G d u 300 807 ls (z_i (2) :: st) w Q := z_gun ((zF300_11 806 (by decide)).trans rfl)
set_option maxRecDepth 100000 in
theorem g300_807 {d : Nat} {u : Nat × Nat} {ls st : List z_V} {w : z_W} {Q : z_P} {x y : Int} : z_G d u 300 807 ls (z_i y :: z_i x :: st) w Q ↔ z_G d u 300 808 ls (z_i (z_add x y) :: st) w Q := z_gun ((zF300_11 807 (by decide)).trans rfl)
set_option maxRecDepth 100000 in
theorem g300_808 {d : Nat} {u : Nat × Nat} {ls st : List z_V} {w : z_W} {Q : z_P} {p : Nat} {i : Int} : z_G d u 300 808 ls (z_i i :: z_r p :: st) w Q ↔ ((z_k w p = 100 ∨ z_k w p = 103) ∧ 0 ≤ i ∧ i < z_len w p ∧ (z_rg (z_I w p i) → z_G d u 300 809 ls (z_i (z_I w p i) :: st) w Q)) := z_gun ((zF300_11 808 (by decide)).trans rfl)
set_option maxRecDepth 100000 in
theorem g300_809 {d : Nat} {u : Nat × Nat} {ls st : List z_V} {w : z_W} {Q : z_P} {o : Option Nat} : z_G d u 300 809 (z_vr o :: ls) st w Q ↔ z_G d u 300 810 (z_vr o :: ls) (z_vr o :: st) w Q := z_gun ((zF300_11 809 (by decide)).trans rfl)
set_option maxRecDepth 100000 in
theorem g300_809r {d : Nat} {u : Nat × Nat} {ls st : List z_V} {w : z_W} {Q : z_P} {k : Nat} : z_G d u 300 809 (z_r k :: ls) st w Q ↔ z_G d u 300 810 (z_r k :: ls) (z_r k :: st) w Q := z_gun ((zF300_11 809 (by decide)).trans rfl)
set_option maxRecDepth 100000 in
theorem g300_810 {d : Nat} {u : Nat × Nat} {ls st : List z_V} {w : z_W} {Q : z_P} {z : Int} {a0 a1 a2 a3 : z_V} : z_G d u 300 810 (a0 :: a1 :: a2 :: a3 :: z_i z :: ls) st w Q ↔ z_G d u 300 812 (a0 :: a1 :: a2 :: a3 :: z_i z :: ls) (z_i z :: st) w Q := z_gun ((zF300_11 810 (by decide)).trans rfl)
set_option maxRecDepth 100000 in
theorem g300_812 {d : Nat} {u : Nat × Nat} {ls st : List z_V} {w : z_W} {Q : z_P} : z_G d u 300 812 ls st w Q ↔ z_G d u 300 813 ls (z_i (3) :: st) w Q := z_gun ((zF300_11 812 (by decide)).trans rfl)
set_option maxRecDepth 100000 in
theorem g300_813 {d : Nat} {u : Nat × Nat} {ls st : List z_V} {w : z_W} {Q : z_P} {x y : Int} : z_G d u 300 813 ls (z_i y :: z_i x :: st) w Q ↔ z_G d u 300 814 ls (z_i (z_add x y) :: st) w Q := z_gun ((zF300_11 813 (by decide)).trans rfl)
set_option maxRecDepth 100000 in
theorem g300_814 {d : Nat} {u : Nat × Nat} {ls st : List z_V} {w : z_W} {Q : z_P} {p : Nat} {i : Int} : z_G d u 300 814 ls (z_i i :: z_r p :: st) w Q ↔ ((z_k w p = 100 ∨ z_k w p = 103) ∧ 0 ≤ i ∧ i < z_len w p ∧ (z_rg (z_I w p i) → z_G d u 300 815 ls (z_i (z_I w p i) :: st) w Q)) := z_gun ((zF300_11 814 (by decide)).trans rfl)
set_option maxRecDepth 100000 in
theorem g300_815 {d : Nat} {u : Nat × Nat} {ls st : List z_V} {w : z_W} {Q : z_P} {o : Option Nat} : z_G d u 300 815 (z_vr o :: ls) st w Q ↔ z_G d u 300 816 (z_vr o :: ls) (z_vr o :: st) w Q := z_gun ((zF300_11 815 (by decide)).trans rfl)
set_option maxRecDepth 100000 in
theorem g300_815r {d : Nat} {u : Nat × Nat} {ls st : List z_V} {w : z_W} {Q : z_P} {k : Nat} : z_G d u 300 815 (z_r k :: ls) st w Q ↔ z_G d u 300 816 (z_r k :: ls) (z_r k :: st) w Q := z_gun ((zF300_11 815 (by decide)).trans rfl)
set_option maxRecDepth 100000 in
theorem g300_816 {d : Nat} {u : Nat × Nat} {ls st : List z_V} {w : z_W} {Q : z_P} {z : Int} {a0 a1 a2 a3 : z_V} : z_G d u 300 816 (a0 :: a1 :: a2 :: a3 :: z_i z :: ls) st w Q ↔ z_G d u 300 818 (a0 :: a1 :: a2 :: a3 :: z_i z :: ls) (z_i z :: st) w Q := z_gun ((zF300_11 816 (by decide)).trans rfl)
set_option maxRecDepth 100000 in
theorem g300_818 {d : Nat} {u : Nat × Nat} {ls st : List z_V} {w : z_W} {Q : z_P} : z_G d u 300 818 ls st w Q ↔ z_G d u 300 819 ls (z_i (4) :: st) w Q := z_gun ((zF300_12 818 (by decide)).trans rfl)
set_option maxRecDepth 100000 in
theorem g300_819 {d : Nat} {u : Nat × Nat} {ls st : List z_V} {w : z_W} {Q : z_P} {x y : Int} : z_G d u 300 819 ls (z_i y :: z_i x :: st) w Q ↔ z_G d u 300 820 ls (z_i (z_add x y) :: st) w Q := z_gun ((zF300_12 819 (by decide)).trans rfl)
set_option maxRecDepth 100000 in
theorem g300_820 {d : Nat} {u : Nat × Nat} {ls st : List z_V} {w : z_W} {Q : z_P} {p : Nat} {i : Int} : z_G d u 300 820 ls (z_i i :: z_r p :: st) w Q ↔ ((z_k w p = 100 ∨ z_k w p = 103) ∧ 0 ≤ i ∧ i < z_len w p ∧ (z_rg (z_I w p i) → z_G d u 300 821 ls (z_i (z_I w p i) :: st) w Q)) := z_gun ((zF300_12 820 (by decide)).trans rfl)
set_option maxRecDepth 100000 in
theorem g300_821 {d : Nat} {u : Nat × Nat} {ls st : List z_V} {w : z_W} {Q : z_P} {o : Option Nat} : z_G d u 300 821 (z_vr o :: ls) st w Q ↔ z_G d u 300 822 (z_vr o :: ls) (z_vr o :: st) w Q := z_gun ((zF300_12 821 (by decide)).trans rfl)
set_option maxRecDepth 100000 in
theorem g300_821r {d : Nat} {u : Nat × Nat} {ls st : List z_V} {w : z_W} {Q : z_P} {k : Nat} : z_G d u 300 821 (z_r k :: ls) st w Q ↔ z_G d u 300 822 (z_r k :: ls) (z_r k :: st) w Q := z_gun ((zF300_12 821 (by decide)).trans rfl)
set_option maxRecDepth 100000 in
theorem g300_822 {d : Nat} {u : Nat × Nat} {ls st : List z_V} {w : z_W} {Q : z_P} {z : Int} {a0 a1 a2 a3 : z_V} : z_G d u 300 822 (a0 :: a1 :: a2 :: a3 :: z_i z :: ls) st w Q ↔ z_G d u 300 824 (a0 :: a1 :: a2 :: a3 :: z_i z :: ls) (z_i z :: st) w Q := z_gun ((zF300_12 822 (by decide)).trans rfl)
set_option maxRecDepth 100000 in
theorem g300_824 {d : Nat} {u : Nat × Nat} {ls st : List z_V} {w : z_W} {Q : z_P} : z_G d u 300 824 ls st w Q ↔ z_G d u 300 825 ls (z_i (5) :: st) w Q := z_gun ((zF300_12 824 (by decide)).trans rfl)
set_option maxRecDepth 100000 in
theorem g300_825 {d : Nat} {u : Nat × Nat} {ls st : List z_V} {w : z_W} {Q : z_P} {x y : Int} : z_G d u 300 825 ls (z_i y :: z_i x :: st) w Q ↔ z_G d u 300 826 ls (z_i (z_add x y) :: st) w Q := z_gun ((zF300_12 825 (by decide)).trans rfl)
set_option maxRecDepth 100000 in
theorem g300_826 {d : Nat} {u : Nat × Nat} {ls st : List z_V} {w : z_W} {Q : z_P} {p : Nat} {i : Int} : z_G d u 300 826 ls (z_i i :: z_r p :: st) w Q ↔ ((z_k w p = 100 ∨ z_k w p = 103) ∧ 0 ≤ i ∧ i < z_len w p ∧ (z_rg (z_I w p i) → z_G d u 300 827 ls (z_i (z_I w p i) :: st) w Q)) := z_gun ((zF300_12 826 (by decide)).trans rfl)
set_option maxRecDepth 100000 in
theorem g300_827 {d : Nat} {u : Nat × Nat} {ls st : List z_V} {w : z_W} {Q : z_P} {p : Nat} {x0 x1 x2 x3 x4 : Int} : z_G (d + 1) u 300 827 ls (z_i x4 :: z_i x3 :: z_i x2 :: z_i x1 :: z_i x0 :: z_r p :: st) w Q ↔ (z_k w p = 12 ∧ z_c8 st 8 = true ∧ z_G d (0, 0) 238 0 [z_r p, z_i x0, z_i x1, z_i x2, z_i x3, z_i x4] [] w (fun r w' => z_G (d + 1) u 300 830 ls (r.toList ++ st) w' Q)) := z_gcaV (d := d) (m := 300) (pc := 827) (m' := 238) (k := 6) (nL := 6) (nx := 830) (ci := 12) (p := p) (u := u) (ls := ls) (st := st) (w := w) (Q := Q) (vs := [z_r p, z_i x0, z_i x1, z_i x2, z_i x3, z_i x4]) ((zF300_12 827 (by decide)).trans rfl) rfl rfl
set_option maxRecDepth 100000 in
theorem g300_830 {d : Nat} {u : Nat × Nat} {ls st : List z_V} {w : z_W} {Q : z_P} {x : Int} : z_G d u 300 830 ls (z_i x :: st) w Q ↔ z_G d u 300 831 ls st w Q := z_gun ((zF300_12 830 (by decide)).trans rfl)
set_option maxRecDepth 100000 in
theorem g300_830r {d : Nat} {u : Nat × Nat} {ls st : List z_V} {w : z_W} {Q : z_P} {k : Nat} : z_G d u 300 830 ls (z_r k :: st) w Q ↔ z_G d u 300 831 ls st w Q := z_gun ((zF300_12 830 (by decide)).trans rfl)
set_option maxRecDepth 100000 in
theorem g300_831 {d : Nat} {u : Nat × Nat} {ls st : List z_V} {w : z_W} {Q : z_P} : z_G d u 300 831 ls st w Q ↔ z_G d u 300 1586 ls st w Q := z_gun ((zF300_12 831 (by decide)).trans rfl)
set_option maxRecDepth 100000 in
theorem g300_834 {d : Nat} {u : Nat × Nat} {ls st : List z_V} {w : z_W} {Q : z_P} {o : Option Nat} {a0 : z_V} : z_G d u 300 834 (a0 :: z_vr o :: ls) st w Q ↔ z_G d u 300 835 (a0 :: z_vr o :: ls) (z_vr o :: st) w Q := z_gun ((zF300_12 834 (by decide)).trans rfl)
set_option maxRecDepth 100000 in
theorem g300_834r {d : Nat} {u : Nat × Nat} {ls st : List z_V} {w : z_W} {Q : z_P} {k : Nat} {a0 : z_V} : z_G d u 300 834 (a0 :: z_r k :: ls) st w Q ↔ z_G d u 300 835 (a0 :: z_r k :: ls) (z_r k :: st) w Q := z_gun ((zF300_12 834 (by decide)).trans rfl)
set_option maxRecDepth 100000 in
theorem g300_835 {d : Nat} {u : Nat × Nat} {ls st : List z_V} {w : z_W} {Q : z_P} {o : Option Nat} : z_G d u 300 835 (z_vr o :: ls) st w Q ↔ z_G d u 300 836 (z_vr o :: ls) (z_vr o :: st) w Q := z_gun ((zF300_12 835 (by decide)).trans rfl)
set_option maxRecDepth 100000 in
theorem g300_835r {d : Nat} {u : Nat × Nat} {ls st : List z_V} {w : z_W} {Q : z_P} {k : Nat} : z_G d u 300 835 (z_r k :: ls) st w Q ↔ z_G d u 300 836 (z_r k :: ls) (z_r k :: st) w Q := z_gun ((zF300_12 835 (by decide)).trans rfl)
set_option maxRecDepth 100000 in
theorem g300_836 {d : Nat} {u : Nat × Nat} {ls st : List z_V} {w : z_W} {Q : z_P} {z : Int} {a0 a1 a2 a3 : z_V} : z_G d u 300 836 (a0 :: a1 :: a2 :: a3 :: z_i z :: ls) st w Q ↔ z_G d u 300 838 (a0 :: a1 :: a2 :: a3 :: z_i z :: ls) (z_i z :: st) w Q := z_gun ((zF300_12 836 (by decide)).trans rfl)
set_option maxRecDepth 100000 in
theorem g300_838 {d : Nat} {u : Nat × Nat} {ls st : List z_V} {w : z_W} {Q : z_P} : z_G d u 300 838 ls st w Q ↔ z_G d u 300 839 ls (z_i (1) :: st) w Q := z_gun ((zF300_12 838 (by decide)).trans rfl)
set_option maxRecDepth 100000 in
theorem g300_839 {d : Nat} {u : Nat × Nat} {ls st : List z_V} {w : z_W} {Q : z_P} {x y : Int} : z_G d u 300 839 ls (z_i y :: z_i x :: st) w Q ↔ z_G d u 300 840 ls (z_i (z_add x y) :: st) w Q := z_gun ((zF300_12 839 (by decide)).trans rfl)
set_option maxRecDepth 100000 in
theorem g300_840 {d : Nat} {u : Nat × Nat} {ls st : List z_V} {w : z_W} {Q : z_P} {p : Nat} {i : Int} : z_G d u 300 840 ls (z_i i :: z_r p :: st) w Q ↔ ((z_k w p = 100 ∨ z_k w p = 103) ∧ 0 ≤ i ∧ i < z_len w p ∧ (z_rg (z_I w p i) → z_G d u 300 841 ls (z_i (z_I w p i) :: st) w Q)) := z_gun ((zF300_12 840 (by decide)).trans rfl)
set_option maxRecDepth 100000 in
theorem g300_841 {d : Nat} {u : Nat × Nat} {ls st : List z_V} {w : z_W} {Q : z_P} {p : Nat} {x0 : Int} : z_G (d + 1) u 300 841 ls (z_i x0 :: z_r p :: st) w Q ↔ (z_k w p = 11 ∧ z_c8 st 8 = true ∧ z_G d (0, 0) 138 0 [z_r p, z_i x0] [] w (fun r w' => z_G (d + 1) u 300 844 ls (r.toList ++ st) w' Q)) := z_gcaV (d := d) (m := 300) (pc := 841) (m' := 138) (k := 2) (nL := 2) (nx := 844) (ci := 11) (p := p) (u := u) (ls := ls) (st := st) (w := w) (Q := Q) (vs := [z_r p, z_i x0]) ((zF300_12 841 (by decide)).trans rfl) rfl rfl
set_option maxRecDepth 100000 in
theorem g300_844 {d : Nat} {u : Nat × Nat} {ls st : List z_V} {w : z_W} {Q : z_P} {x : Int} : z_G d u 300 844 ls (z_i x :: st) w Q ↔ z_G d u 300 845 ls st w Q := z_gun ((zF300_12 844 (by decide)).trans rfl)
set_option maxRecDepth 100000 in
theorem g300_844r {d : Nat} {u : Nat × Nat} {ls st : List z_V} {w : z_W} {Q : z_P} {k : Nat} : z_G d u 300 844 ls (z_r k :: st) w Q ↔ z_G d u 300 845 ls st w Q := z_gun ((zF300_12 844 (by decide)).trans rfl)
set_option maxRecDepth 100000 in
theorem g300_845 {d : Nat} {u : Nat × Nat} {ls st : List z_V} {w : z_W} {Q : z_P} {o : Option Nat} {a0 a1 : z_V} : z_G d u 300 845 (a0 :: a1 :: z_vr o :: ls) st w Q ↔ z_G d u 300 846 (a0 :: a1 :: z_vr o :: ls) (z_vr o :: st) w Q := z_gun ((zF300_12 845 (by decide)).trans rfl)
set_option maxRecDepth 100000 in
theorem g300_845r {d : Nat} {u : Nat × Nat} {ls st : List z_V} {w : z_W} {Q : z_P} {k : Nat} {a0 a1 : z_V} : z_G d u 300 845 (a0 :: a1 :: z_r k :: ls) st w Q ↔ z_G d u 300 846 (a0 :: a1 :: z_r k :: ls) (z_r k :: st) w Q := z_gun ((zF300_12 845 (by decide)).trans rfl)
set_option maxRecDepth 100000 in
theorem g300_846 {d : Nat} {u : Nat × Nat} {ls st : List z_V} {w : z_W} {Q : z_P} {o : Option Nat} : z_G d u 300 846 (z_vr o :: ls) st w Q ↔ z_G d u 300 847 (z_vr o :: ls) (z_vr o :: st) w Q := z_gun ((zF300_12 846 (by decide)).trans rfl)
set_option maxRecDepth 100000 in
theorem g300_846r {d : Nat} {u : Nat × Nat} {ls st : List z_V} {w : z_W} {Q : z_P} {k : Nat} : z_G d u 300 846 (z_r k :: ls) st w Q ↔ z_G d u 300 847 (z_r k :: ls) (z_r k :: st) w Q := z_gun ((zF300_12 846 (by decide)).trans rfl)
set_option maxRecDepth 100000 in
theorem g300_847 {d : Nat} {u : Nat × Nat} {ls st : List z_V} {w : z_W} {Q : z_P} {z : Int} {a0 a1 a2 a3 : z_V} : z_G d u 300 847 (a0 :: a1 :: a2 :: a3 :: z_i z :: ls) st w Q ↔ z_G d u 300 849 (a0 :: a1 :: a2 :: a3 :: z_i z :: ls) (z_i z :: st) w Q := z_gun ((zF300_12 847 (by decide)).trans rfl)
set_option maxRecDepth 100000 in
theorem g300_849 {d : Nat} {u : Nat × Nat} {ls st : List z_V} {w : z_W} {Q : z_P} : z_G d u 300 849 ls st w Q ↔ z_G d u 300 850 ls (z_i (1) :: st) w Q := z_gun ((zF300_12 849 (by decide)).trans rfl)
set_option maxRecDepth 100000 in
theorem g300_850 {d : Nat} {u : Nat × Nat} {ls st : List z_V} {w : z_W} {Q : z_P} {x y : Int} : z_G d u 300 850 ls (z_i y :: z_i x :: st) w Q ↔ z_G d u 300 851 ls (z_i (z_add x y) :: st) w Q := z_gun ((zF300_12 850 (by decide)).trans rfl)
set_option maxRecDepth 100000 in
theorem g300_851 {d : Nat} {u : Nat × Nat} {ls st : List z_V} {w : z_W} {Q : z_P} {p : Nat} {i : Int} : z_G d u 300 851 ls (z_i i :: z_r p :: st) w Q ↔ ((z_k w p = 100 ∨ z_k w p = 103) ∧ 0 ≤ i ∧ i < z_len w p ∧ (z_rg (z_I w p i) → z_G d u 300 852 ls (z_i (z_I w p i) :: st) w Q)) := z_gun ((zF300_12 851 (by decide)).trans rfl)
set_option maxRecDepth 100000 in
theorem g300_852 {d : Nat} {u : Nat × Nat} {ls st : List z_V} {w : z_W} {Q : z_P} {p : Nat} {x0 : Int} : z_G (d + 1) u 300 852 ls (z_i x0 :: z_r p :: st) w Q ↔ (z_k w p = 12 ∧ z_c8 st 8 = true ∧ z_G d (0, 0) 239 0 [z_r p, z_i x0] [] w (fun r w' => z_G (d + 1) u 300 855 ls (r.toList ++ st) w' Q)) := z_gcaV (d := d) (m := 300) (pc := 852) (m' := 239) (k := 2) (nL := 2) (nx := 855) (ci := 12) (p := p) (u := u) (ls := ls) (st := st) (w := w) (Q := Q) (vs := [z_r p, z_i x0]) ((zF300_12 852 (by decide)).trans rfl) rfl rfl
set_option maxRecDepth 100000 in
theorem g300_855 {d : Nat} {u : Nat × Nat} {ls st : List z_V} {w : z_W} {Q : z_P} {x : Int} : z_G d u 300 855 ls (z_i x :: st) w Q ↔ z_G d u 300 856 ls st w Q := z_gun ((zF300_12 855 (by decide)).trans rfl)
set_option maxRecDepth 100000 in
theorem g300_855r {d : Nat} {u : Nat × Nat} {ls st : List z_V} {w : z_W} {Q : z_P} {k : Nat} : z_G d u 300 855 ls (z_r k :: st) w Q ↔ z_G d u 300 856 ls st w Q := z_gun ((zF300_12 855 (by decide)).trans rfl)
set_option maxRecDepth 100000 in
theorem g300_856 {d : Nat} {u : Nat × Nat} {ls st : List z_V} {w : z_W} {Q : z_P} : z_G d u 300 856 ls st w Q ↔ z_G d u 300 1586 ls st w Q := z_gun ((zF300_12 856 (by decide)).trans rfl)
set_option maxRecDepth 100000 in
theorem g300_859 {d : Nat} {u : Nat × Nat} {ls st : List z_V} {w : z_W} {Q : z_P} {o : Option Nat} {a0 : z_V} : z_G d u 300 859 (a0 :: z_vr o :: ls) st w Q ↔ z_G d u 300 860 (a0 :: z_vr o :: ls) (z_vr o :: st) w Q := z_gun ((zF300_12 859 (by decide)).trans rfl)
set_option maxRecDepth 100000 in
theorem g300_859r {d : Nat} {u : Nat × Nat} {ls st : List z_V} {w : z_W} {Q : z_P} {k : Nat} {a0 : z_V} : z_G d u 300 859 (a0 :: z_r k :: ls) st w Q ↔ z_G d u 300 860 (a0 :: z_r k :: ls) (z_r k :: st) w Q := z_gun ((zF300_12 859 (by decide)).trans rfl)
set_option maxRecDepth 100000 in
theorem g300_860 {d : Nat} {u : Nat × Nat} {ls st : List z_V} {w : z_W} {Q : z_P} {o : Option Nat} : z_G d u 300 860 (z_vr o :: ls) st w Q ↔ z_G d u 300 861 (z_vr o :: ls) (z_vr o :: st) w Q := z_gun ((zF300_12 860 (by decide)).trans rfl)
set_option maxRecDepth 100000 in
theorem g300_860r {d : Nat} {u : Nat × Nat} {ls st : List z_V} {w : z_W} {Q : z_P} {k : Nat} : z_G d u 300 860 (z_r k :: ls) st w Q ↔ z_G d u 300 861 (z_r k :: ls) (z_r k :: st) w Q := z_gun ((zF300_12 860 (by decide)).trans rfl)
set_option maxRecDepth 100000 in
theorem g300_861 {d : Nat} {u : Nat × Nat} {ls st : List z_V} {w : z_W} {Q : z_P} {z : Int} {a0 a1 a2 a3 : z_V} : z_G d u 300 861 (a0 :: a1 :: a2 :: a3 :: z_i z :: ls) st w Q ↔ z_G d u 300 863 (a0 :: a1 :: a2 :: a3 :: z_i z :: ls) (z_i z :: st) w Q := z_gun ((zF300_12 861 (by decide)).trans rfl)
set_option maxRecDepth 100000 in
theorem g300_863 {d : Nat} {u : Nat × Nat} {ls st : List z_V} {w : z_W} {Q : z_P} : z_G d u 300 863 ls st w Q ↔ z_G d u 300 864 ls (z_i (1) :: st) w Q := z_gun ((zF300_12 863 (by decide)).trans rfl)
set_option maxRecDepth 100000 in
theorem g300_864 {d : Nat} {u : Nat × Nat} {ls st : List z_V} {w : z_W} {Q : z_P} {x y : Int} : z_G d u 300 864 ls (z_i y :: z_i x :: st) w Q ↔ z_G d u 300 865 ls (z_i (z_add x y) :: st) w Q := z_gun ((zF300_12 864 (by decide)).trans rfl)
set_option maxRecDepth 100000 in
theorem g300_865 {d : Nat} {u : Nat × Nat} {ls st : List z_V} {w : z_W} {Q : z_P} {p : Nat} {i : Int} : z_G d u 300 865 ls (z_i i :: z_r p :: st) w Q ↔ ((z_k w p = 100 ∨ z_k w p = 103) ∧ 0 ≤ i ∧ i < z_len w p ∧ (z_rg (z_I w p i) → z_G d u 300 866 ls (z_i (z_I w p i) :: st) w Q)) := z_gun ((zF300_12 865 (by decide)).trans rfl)
set_option maxRecDepth 100000 in
theorem g300_866 {d : Nat} {u : Nat × Nat} {ls st : List z_V} {w : z_W} {Q : z_P} {o : Option Nat} : z_G d u 300 866 (z_vr o :: ls) st w Q ↔ z_G d u 300 867 (z_vr o :: ls) (z_vr o :: st) w Q := z_gun ((zF300_12 866 (by decide)).trans rfl)
set_option maxRecDepth 100000 in
theorem g300_866r {d : Nat} {u : Nat × Nat} {ls st : List z_V} {w : z_W} {Q : z_P} {k : Nat} : z_G d u 300 866 (z_r k :: ls) st w Q ↔ z_G d u 300 867 (z_r k :: ls) (z_r k :: st) w Q := z_gun ((zF300_12 866 (by decide)).trans rfl)
set_option maxRecDepth 100000 in
theorem g300_867 {d : Nat} {u : Nat × Nat} {ls st : List z_V} {w : z_W} {Q : z_P} {z : Int} {a0 a1 a2 a3 : z_V} : z_G d u 300 867 (a0 :: a1 :: a2 :: a3 :: z_i z :: ls) st w Q ↔ z_G d u 300 869 (a0 :: a1 :: a2 :: a3 :: z_i z :: ls) (z_i z :: st) w Q := z_gun ((zF300_12 867 (by decide)).trans rfl)
set_option maxRecDepth 100000 in
theorem g300_869 {d : Nat} {u : Nat × Nat} {ls st : List z_V} {w : z_W} {Q : z_P} : z_G d u 300 869 ls st w Q ↔ z_G d u 300 870 ls (z_i (2) :: st) w Q := z_gun ((zF300_12 869 (by decide)).trans rfl)
set_option maxRecDepth 100000 in
theorem g300_870 {d : Nat} {u : Nat × Nat} {ls st : List z_V} {w : z_W} {Q : z_P} {x y : Int} : z_G d u 300 870 ls (z_i y :: z_i x :: st) w Q ↔ z_G d u 300 871 ls (z_i (z_add x y) :: st) w Q := z_gun ((zF300_12 870 (by decide)).trans rfl)
set_option maxRecDepth 100000 in
theorem g300_871 {d : Nat} {u : Nat × Nat} {ls st : List z_V} {w : z_W} {Q : z_P} {p : Nat} {i : Int} : z_G d u 300 871 ls (z_i i :: z_r p :: st) w Q ↔ ((z_k w p = 100 ∨ z_k w p = 103) ∧ 0 ≤ i ∧ i < z_len w p ∧ (z_rg (z_I w p i) → z_G d u 300 872 ls (z_i (z_I w p i) :: st) w Q)) := z_gun ((zF300_12 871 (by decide)).trans rfl)
set_option maxRecDepth 100000 in
theorem g300_872 {d : Nat} {u : Nat × Nat} {ls st : List z_V} {w : z_W} {Q : z_P} {p : Nat} {x0 x1 : Int} : z_G (d + 1) u 300 872 ls (z_i x1 :: z_i x0 :: z_r p :: st) w Q ↔ (z_k w p = 11 ∧ z_c8 st 8 = true ∧ z_G d (0, 0) 139 0 [z_r p, z_i x0, z_i x1] [] w (fun r w' => z_G (d + 1) u 300 875 ls (r.toList ++ st) w' Q)) := z_gcaV (d := d) (m := 300) (pc := 872) (m' := 139) (k := 3) (nL := 3) (nx := 875) (ci := 11) (p := p) (u := u) (ls := ls) (st := st) (w := w) (Q := Q) (vs := [z_r p, z_i x0, z_i x1]) ((zF300_12 872 (by decide)).trans rfl) rfl rfl
set_option maxRecDepth 100000 in
theorem g300_875 {d : Nat} {u : Nat × Nat} {ls st : List z_V} {w : z_W} {Q : z_P} {x : Int} : z_G d u 300 875 ls (z_i x :: st) w Q ↔ z_G d u 300 876 ls st w Q := z_gun ((zF300_13 875 (by decide)).trans rfl)
set_option maxRecDepth 100000 in
theorem g300_875r {d : Nat} {u : Nat × Nat} {ls st : List z_V} {w : z_W} {Q : z_P} {k : Nat} : z_G d u 300 875 ls (z_r k :: st) w Q ↔ z_G d u 300 876 ls st w Q := z_gun ((zF300_13 875 (by decide)).trans rfl)
set_option maxRecDepth 100000 in
theorem g300_876 {d : Nat} {u : Nat × Nat} {ls st : List z_V} {w : z_W} {Q : z_P} {o : Option Nat} {a0 a1 : z_V} : z_G d u 300 876 (a0 :: a1 :: z_vr o :: ls) st w Q ↔ z_G d u 300 877 (a0 :: a1 :: z_vr o :: ls) (z_vr o :: st) w Q := z_gun ((zF300_13 876 (by decide)).trans rfl)
set_option maxRecDepth 100000 in
theorem g300_876r {d : Nat} {u : Nat × Nat} {ls st : List z_V} {w : z_W} {Q : z_P} {k : Nat} {a0 a1 : z_V} : z_G d u 300 876 (a0 :: a1 :: z_r k :: ls) st w Q ↔ z_G d u 300 877 (a0 :: a1 :: z_r k :: ls) (z_r k :: st) w Q := z_gun ((zF300_13 876 (by decide)).trans rfl)
set_option maxRecDepth 100000 in
theorem g300_877 {d : Nat} {u : Nat × Nat} {ls st : List z_V} {w : z_W} {Q : z_P} {o : Option Nat} : z_G d u 300 877 (z_vr o :: ls) st w Q ↔ z_G d u 300 878 (z_vr o :: ls) (z_vr o :: st) w Q := z_gun ((zF300_13 877 (by decide)).trans rfl)
set_option maxRecDepth 100000 in
theorem g300_877r {d : Nat} {u : Nat × Nat} {ls st : List z_V} {w : z_W} {Q : z_P} {k : Nat} : z_G d u 300 877 (z_r k :: ls) st w Q ↔ z_G d u 300 878 (z_r k :: ls) (z_r k :: st) w Q := z_gun ((zF300_13 877 (by decide)).trans rfl)
set_option maxRecDepth 100000 in
theorem g300_878 {d : Nat} {u : Nat × Nat} {ls st : List z_V} {w : z_W} {Q : z_P} {z : Int} {a0 a1 a2 a3 : z_V} : z_G d u 300 878 (a0 :: a1 :: a2 :: a3 :: z_i z :: ls) st w Q ↔ z_G d u 300 880 (a0 :: a1 :: a2 :: a3 :: z_i z :: ls) (z_i z :: st) w Q := z_gun ((zF300_13 878 (by decide)).trans rfl)
set_option maxRecDepth 100000 in
theorem g300_880 {d : Nat} {u : Nat × Nat} {ls st : List z_V} {w : z_W} {Q : z_P} : z_G d u 300 880 ls st w Q ↔ z_G d u 300 881 ls (z_i (1) :: st) w Q := z_gun ((zF300_13 880 (by decide)).trans rfl)
set_option maxRecDepth 100000 in
theorem g300_881 {d : Nat} {u : Nat × Nat} {ls st : List z_V} {w : z_W} {Q : z_P} {x y : Int} : z_G d u 300 881 ls (z_i y :: z_i x :: st) w Q ↔ z_G d u 300 882 ls (z_i (z_add x y) :: st) w Q := z_gun ((zF300_13 881 (by decide)).trans rfl)
set_option maxRecDepth 100000 in
theorem g300_882 {d : Nat} {u : Nat × Nat} {ls st : List z_V} {w : z_W} {Q : z_P} {p : Nat} {i : Int} : z_G d u 300 882 ls (z_i i :: z_r p :: st) w Q ↔ ((z_k w p = 100 ∨ z_k w p = 103) ∧ 0 ≤ i ∧ i < z_len w p ∧ (z_rg (z_I w p i) → z_G d u 300 883 ls (z_i (z_I w p i) :: st) w Q)) := z_gun ((zF300_13 882 (by decide)).trans rfl)
set_option maxRecDepth 100000 in
theorem g300_883 {d : Nat} {u : Nat × Nat} {ls st : List z_V} {w : z_W} {Q : z_P} {o : Option Nat} : z_G d u 300 883 (z_vr o :: ls) st w Q ↔ z_G d u 300 884 (z_vr o :: ls) (z_vr o :: st) w Q := z_gun ((zF300_13 883 (by decide)).trans rfl)
set_option maxRecDepth 100000 in
theorem g300_883r {d : Nat} {u : Nat × Nat} {ls st : List z_V} {w : z_W} {Q : z_P} {k : Nat} : z_G d u 300 883 (z_r k :: ls) st w Q ↔ z_G d u 300 884 (z_r k :: ls) (z_r k :: st) w Q := z_gun ((zF300_13 883 (by decide)).trans rfl)
set_option maxRecDepth 100000 in
theorem g300_884 {d : Nat} {u : Nat × Nat} {ls st : List z_V} {w : z_W} {Q : z_P} {z : Int} {a0 a1 a2 a3 : z_V} : z_G d u 300 884 (a0 :: a1 :: a2 :: a3 :: z_i z :: ls) st w Q ↔ z_G d u 300 886 (a0 :: a1 :: a2 :: a3 :: z_i z :: ls) (z_i z :: st) w Q := z_gun ((zF300_13 884 (by decide)).trans rfl)
set_option maxRecDepth 100000 in
theorem g300_886 {d : Nat} {u : Nat × Nat} {ls st : List z_V} {w : z_W} {Q : z_P} : z_G d u 300 886 ls st w Q ↔ z_G d u 300 887 ls (z_i (2) :: st) w Q := z_gun ((zF300_13 886 (by decide)).trans rfl)
set_option maxRecDepth 100000 in
theorem g300_887 {d : Nat} {u : Nat × Nat} {ls st : List z_V} {w : z_W} {Q : z_P} {x y : Int} : z_G d u 300 887 ls (z_i y :: z_i x :: st) w Q ↔ z_G d u 300 888 ls (z_i (z_add x y) :: st) w Q := z_gun ((zF300_13 887 (by decide)).trans rfl)
set_option maxRecDepth 100000 in
theorem g300_888 {d : Nat} {u : Nat × Nat} {ls st : List z_V} {w : z_W} {Q : z_P} {p : Nat} {i : Int} : z_G d u 300 888 ls (z_i i :: z_r p :: st) w Q ↔ ((z_k w p = 100 ∨ z_k w p = 103) ∧ 0 ≤ i ∧ i < z_len w p ∧ (z_rg (z_I w p i) → z_G d u 300 889 ls (z_i (z_I w p i) :: st) w Q)) := z_gun ((zF300_13 888 (by decide)).trans rfl)
set_option maxRecDepth 100000 in
theorem g300_889 {d : Nat} {u : Nat × Nat} {ls st : List z_V} {w : z_W} {Q : z_P} {p : Nat} {x0 x1 : Int} : z_G (d + 1) u 300 889 ls (z_i x1 :: z_i x0 :: z_r p :: st) w Q ↔ (z_k w p = 12 ∧ z_c8 st 8 = true ∧ z_G d (0, 0) 240 0 [z_r p, z_i x0, z_i x1] [] w (fun r w' => z_G (d + 1) u 300 892 ls (r.toList ++ st) w' Q)) := z_gcaV (d := d) (m := 300) (pc := 889) (m' := 240) (k := 3) (nL := 3) (nx := 892) (ci := 12) (p := p) (u := u) (ls := ls) (st := st) (w := w) (Q := Q) (vs := [z_r p, z_i x0, z_i x1]) ((zF300_13 889 (by decide)).trans rfl) rfl rfl
set_option maxRecDepth 100000 in
theorem g300_892 {d : Nat} {u : Nat × Nat} {ls st : List z_V} {w : z_W} {Q : z_P} {x : Int} : z_G d u 300 892 ls (z_i x :: st) w Q ↔ z_G d u 300 893 ls st w Q := z_gun ((zF300_13 892 (by decide)).trans rfl)
set_option maxRecDepth 100000 in
theorem g300_892r {d : Nat} {u : Nat × Nat} {ls st : List z_V} {w : z_W} {Q : z_P} {k : Nat} : z_G d u 300 892 ls (z_r k :: st) w Q ↔ z_G d u 300 893 ls st w Q := z_gun ((zF300_13 892 (by decide)).trans rfl)
set_option maxRecDepth 100000 in
theorem g300_893 {d : Nat} {u : Nat × Nat} {ls st : List z_V} {w : z_W} {Q : z_P} : z_G d u 300 893 ls st w Q ↔ z_G d u 300 1586 ls st w Q := z_gun ((zF300_13 893 (by decide)).trans rfl)
set_option maxRecDepth 100000 in
theorem g300_896 {d : Nat} {u : Nat × Nat} {ls st : List z_V} {w : z_W} {Q : z_P} {o : Option Nat} {a0 : z_V} : z_G d u 300 896 (a0 :: z_vr o :: ls) st w Q ↔ z_G d u 300 897 (a0 :: z_vr o :: ls) (z_vr o :: st) w Q := z_gun ((zF300_13 896 (by decide)).trans rfl)
set_option maxRecDepth 100000 in
theorem g300_896r {d : Nat} {u : Nat × Nat} {ls st : List z_V} {w : z_W} {Q : z_P} {k : Nat} {a0 : z_V} : z_G d u 300 896 (a0 :: z_r k :: ls) st w Q ↔ z_G d u 300 897 (a0 :: z_r k :: ls) (z_r k :: st) w Q := z_gun ((zF300_13 896 (by decide)).trans rfl)
set_option maxRecDepth 100000 in
theorem g300_897 {d : Nat} {u : Nat × Nat} {ls st : List z_V} {w : z_W} {Q : z_P} {o : Option Nat} : z_G d u 300 897 (z_vr o :: ls) st w Q ↔ z_G d u 300 898 (z_vr o :: ls) (z_vr o :: st) w Q := z_gun ((zF300_13 897 (by decide)).trans rfl)
set_option maxRecDepth 100000 in
theorem g300_897r {d : Nat} {u : Nat × Nat} {ls st : List z_V} {w : z_W} {Q : z_P} {k : Nat} : z_G d u 300 897 (z_r k :: ls) st w Q ↔ z_G d u 300 898 (z_r k :: ls) (z_r k :: st) w Q := z_gun ((zF300_13 897 (by decide)).trans rfl)
set_option maxRecDepth 100000 in
theorem g300_898 {d : Nat} {u : Nat × Nat} {ls st : List z_V} {w : z_W} {Q : z_P} {z : Int} {a0 a1 a2 a3 : z_V} : z_G d u 300 898 (a0 :: a1 :: a2 :: a3 :: z_i z :: ls) st w Q ↔ z_G d u 300 900 (a0 :: a1 :: a2 :: a3 :: z_i z :: ls) (z_i z :: st) w Q := z_gun ((zF300_13 898 (by decide)).trans rfl)
set_option maxRecDepth 100000 in
theorem g300_900 {d : Nat} {u : Nat × Nat} {ls st : List z_V} {w : z_W} {Q : z_P} : z_G d u 300 900 ls st w Q ↔ z_G d u 300 901 ls (z_i (1) :: st) w Q := z_gun ((zF300_13 900 (by decide)).trans rfl)
set_option maxRecDepth 100000 in
theorem g300_901 {d : Nat} {u : Nat × Nat} {ls st : List z_V} {w : z_W} {Q : z_P} {x y : Int} : z_G d u 300 901 ls (z_i y :: z_i x :: st) w Q ↔ z_G d u 300 902 ls (z_i (z_add x y) :: st) w Q := z_gun ((zF300_13 901 (by decide)).trans rfl)
set_option maxRecDepth 100000 in
theorem g300_902 {d : Nat} {u : Nat × Nat} {ls st : List z_V} {w : z_W} {Q : z_P} {p : Nat} {i : Int} : z_G d u 300 902 ls (z_i i :: z_r p :: st) w Q ↔ ((z_k w p = 100 ∨ z_k w p = 103) ∧ 0 ≤ i ∧ i < z_len w p ∧ (z_rg (z_I w p i) → z_G d u 300 903 ls (z_i (z_I w p i) :: st) w Q)) := z_gun ((zF300_13 902 (by decide)).trans rfl)
set_option maxRecDepth 100000 in
theorem g300_903 {d : Nat} {u : Nat × Nat} {ls st : List z_V} {w : z_W} {Q : z_P} {o : Option Nat} : z_G d u 300 903 (z_vr o :: ls) st w Q ↔ z_G d u 300 904 (z_vr o :: ls) (z_vr o :: st) w Q := z_gun ((zF300_13 903 (by decide)).trans rfl)
set_option maxRecDepth 100000 in
theorem g300_903r {d : Nat} {u : Nat × Nat} {ls st : List z_V} {w : z_W} {Q : z_P} {k : Nat} : z_G d u 300 903 (z_r k :: ls) st w Q ↔ z_G d u 300 904 (z_r k :: ls) (z_r k :: st) w Q := z_gun ((zF300_13 903 (by decide)).trans rfl)
set_option maxRecDepth 100000 in
theorem g300_904 {d : Nat} {u : Nat × Nat} {ls st : List z_V} {w : z_W} {Q : z_P} {z : Int} {a0 a1 a2 a3 : z_V} : z_G d u 300 904 (a0 :: a1 :: a2 :: a3 :: z_i z :: ls) st w Q ↔ z_G d u 300 906 (a0 :: a1 :: a2 :: a3 :: z_i z :: ls) (z_i z :: st) w Q := z_gun ((zF300_13 904 (by decide)).trans rfl)
set_option maxRecDepth 100000 in
theorem g300_906 {d : Nat} {u : Nat × Nat} {ls st : List z_V} {w : z_W} {Q : z_P} : z_G d u 300 906 ls st w Q ↔ z_G d u 300 907 ls (z_i (2) :: st) w Q := z_gun ((zF300_13 906 (by decide)).trans rfl)
set_option maxRecDepth 100000 in
theorem g300_907 {d : Nat} {u : Nat × Nat} {ls st : List z_V} {w : z_W} {Q : z_P} {x y : Int} : z_G d u 300 907 ls (z_i y :: z_i x :: st) w Q ↔ z_G d u 300 908 ls (z_i (z_add x y) :: st) w Q := z_gun ((zF300_13 907 (by decide)).trans rfl)
set_option maxRecDepth 100000 in
theorem g300_908 {d : Nat} {u : Nat × Nat} {ls st : List z_V} {w : z_W} {Q : z_P} {p : Nat} {i : Int} : z_G d u 300 908 ls (z_i i :: z_r p :: st) w Q ↔ ((z_k w p = 100 ∨ z_k w p = 103) ∧ 0 ≤ i ∧ i < z_len w p ∧ (z_rg (z_I w p i) → z_G d u 300 909 ls (z_i (z_I w p i) :: st) w Q)) := z_gun ((zF300_13 908 (by decide)).trans rfl)
set_option maxRecDepth 100000 in
theorem g300_909 {d : Nat} {u : Nat × Nat} {ls st : List z_V} {w : z_W} {Q : z_P} {p : Nat} {x0 x1 : Int} : z_G (d + 1) u 300 909 ls (z_i x1 :: z_i x0 :: z_r p :: st) w Q ↔ (z_k w p = 11 ∧ z_c8 st 8 = true ∧ z_G d (0, 0) 140 0 [z_r p, z_i x0, z_i x1] [] w (fun r w' => z_G (d + 1) u 300 912 ls (r.toList ++ st) w' Q)) := z_gcaV (d := d) (m := 300) (pc := 909) (m' := 140) (k := 3) (nL := 3) (nx := 912) (ci := 11) (p := p) (u := u) (ls := ls) (st := st) (w := w) (Q := Q) (vs := [z_r p, z_i x0, z_i x1]) ((zF300_13 909 (by decide)).trans rfl) rfl rfl
set_option maxRecDepth 100000 in
theorem g300_912 {d : Nat} {u : Nat × Nat} {ls st : List z_V} {w : z_W} {Q : z_P} {x : Int} : z_G d u 300 912 ls (z_i x :: st) w Q ↔ z_G d u 300 913 ls st w Q := z_gun ((zF300_13 912 (by decide)).trans rfl)
set_option maxRecDepth 100000 in
theorem g300_912r {d : Nat} {u : Nat × Nat} {ls st : List z_V} {w : z_W} {Q : z_P} {k : Nat} : z_G d u 300 912 ls (z_r k :: st) w Q ↔ z_G d u 300 913 ls st w Q := z_gun ((zF300_13 912 (by decide)).trans rfl)
set_option maxRecDepth 100000 in
theorem g300_913 {d : Nat} {u : Nat × Nat} {ls st : List z_V} {w : z_W} {Q : z_P} {o : Option Nat} {a0 a1 : z_V} : z_G d u 300 913 (a0 :: a1 :: z_vr o :: ls) st w Q ↔ z_G d u 300 914 (a0 :: a1 :: z_vr o :: ls) (z_vr o :: st) w Q := z_gun ((zF300_13 913 (by decide)).trans rfl)
set_option maxRecDepth 100000 in
theorem g300_913r {d : Nat} {u : Nat × Nat} {ls st : List z_V} {w : z_W} {Q : z_P} {k : Nat} {a0 a1 : z_V} : z_G d u 300 913 (a0 :: a1 :: z_r k :: ls) st w Q ↔ z_G d u 300 914 (a0 :: a1 :: z_r k :: ls) (z_r k :: st) w Q := z_gun ((zF300_13 913 (by decide)).trans rfl)
set_option maxRecDepth 100000 in
theorem g300_914 {d : Nat} {u : Nat × Nat} {ls st : List z_V} {w : z_W} {Q : z_P} {o : Option Nat} : z_G d u 300 914 (z_vr o :: ls) st w Q ↔ z_G d u 300 915 (z_vr o :: ls) (z_vr o :: st) w Q := z_gun ((zF300_13 914 (by decide)).trans rfl)
set_option maxRecDepth 100000 in
theorem g300_914r {d : Nat} {u : Nat × Nat} {ls st : List z_V} {w : z_W} {Q : z_P} {k : Nat} : z_G d u 300 914 (z_r k :: ls) st w Q ↔ z_G d u 300 915 (z_r k :: ls) (z_r k :: st) w Q := z_gun ((zF300_13 914 (by decide)).trans rfl)
set_option maxRecDepth 100000 in
theorem g300_915 {d : Nat} {u : Nat × Nat} {ls st : List z_V} {w : z_W} {Q : z_P} {z : Int} {a0 a1 a2 a3 : z_V} : z_G d u 300 915 (a0 :: a1 :: a2 :: a3 :: z_i z :: ls) st w Q ↔ z_G d u 300 917 (a0 :: a1 :: a2 :: a3 :: z_i z :: ls) (z_i z :: st) w Q := z_gun ((zF300_13 915 (by decide)).trans rfl)
set_option maxRecDepth 100000 in
theorem g300_917 {d : Nat} {u : Nat × Nat} {ls st : List z_V} {w : z_W} {Q : z_P} : z_G d u 300 917 ls st w Q ↔ z_G d u 300 918 ls (z_i (1) :: st) w Q := z_gun ((zF300_13 917 (by decide)).trans rfl)
set_option maxRecDepth 100000 in
theorem g300_918 {d : Nat} {u : Nat × Nat} {ls st : List z_V} {w : z_W} {Q : z_P} {x y : Int} : z_G d u 300 918 ls (z_i y :: z_i x :: st) w Q ↔ z_G d u 300 919 ls (z_i (z_add x y) :: st) w Q := z_gun ((zF300_13 918 (by decide)).trans rfl)
set_option maxRecDepth 100000 in
theorem g300_919 {d : Nat} {u : Nat × Nat} {ls st : List z_V} {w : z_W} {Q : z_P} {p : Nat} {i : Int} : z_G d u 300 919 ls (z_i i :: z_r p :: st) w Q ↔ ((z_k w p = 100 ∨ z_k w p = 103) ∧ 0 ≤ i ∧ i < z_len w p ∧ (z_rg (z_I w p i) → z_G d u 300 920 ls (z_i (z_I w p i) :: st) w Q)) := z_gun ((zF300_13 919 (by decide)).trans rfl)
set_option maxRecDepth 100000 in
theorem g300_920 {d : Nat} {u : Nat × Nat} {ls st : List z_V} {w : z_W} {Q : z_P} {o : Option Nat} : z_G d u 300 920 (z_vr o :: ls) st w Q ↔ z_G d u 300 921 (z_vr o :: ls) (z_vr o :: st) w Q := z_gun ((zF300_13 920 (by decide)).trans rfl)
set_option maxRecDepth 100000 in
theorem g300_920r {d : Nat} {u : Nat × Nat} {ls st : List z_V} {w : z_W} {Q : z_P} {k : Nat} : z_G d u 300 920 (z_r k :: ls) st w Q ↔ z_G d u 300 921 (z_r k :: ls) (z_r k :: st) w Q := z_gun ((zF300_13 920 (by decide)).trans rfl)
set_option maxRecDepth 100000 in
theorem g300_921 {d : Nat} {u : Nat × Nat} {ls st : List z_V} {w : z_W} {Q : z_P} {z : Int} {a0 a1 a2 a3 : z_V} : z_G d u 300 921 (a0 :: a1 :: a2 :: a3 :: z_i z :: ls) st w Q ↔ z_G d u 300 923 (a0 :: a1 :: a2 :: a3 :: z_i z :: ls) (z_i z :: st) w Q := z_gun ((zF300_13 921 (by decide)).trans rfl)
set_option maxRecDepth 100000 in
theorem g300_923 {d : Nat} {u : Nat × Nat} {ls st : List z_V} {w : z_W} {Q : z_P} : z_G d u 300 923 ls st w Q ↔ z_G d u 300 924 ls (z_i (2) :: st) w Q := z_gun ((zF300_13 923 (by decide)).trans rfl)
set_option maxRecDepth 100000 in
theorem g300_924 {d : Nat} {u : Nat × Nat} {ls st : List z_V} {w : z_W} {Q : z_P} {x y : Int} : z_G d u 300 924 ls (z_i y :: z_i x :: st) w Q ↔ z_G d u 300 925 ls (z_i (z_add x y) :: st) w Q := z_gun ((zF300_13 924 (by decide)).trans rfl)
set_option maxRecDepth 100000 in
theorem g300_925 {d : Nat} {u : Nat × Nat} {ls st : List z_V} {w : z_W} {Q : z_P} {p : Nat} {i : Int} : z_G d u 300 925 ls (z_i i :: z_r p :: st) w Q ↔ ((z_k w p = 100 ∨ z_k w p = 103) ∧ 0 ≤ i ∧ i < z_len w p ∧ (z_rg (z_I w p i) → z_G d u 300 926 ls (z_i (z_I w p i) :: st) w Q)) := z_gun ((zF300_13 925 (by decide)).trans rfl)
set_option maxRecDepth 100000 in
theorem g300_926 {d : Nat} {u : Nat × Nat} {ls st : List z_V} {w : z_W} {Q : z_P} {p : Nat} {x0 x1 : Int} : z_G (d + 1) u 300 926 ls (z_i x1 :: z_i x0 :: z_r p :: st) w Q ↔ (z_k w p = 12 ∧ z_c8 st 8 = true ∧ z_G d (0, 0) 241 0 [z_r p, z_i x0, z_i x1] [] w (fun r w' => z_G (d + 1) u 300 929 ls (r.toList ++ st) w' Q)) := z_gcaV (d := d) (m := 300) (pc := 926) (m' := 241) (k := 3) (nL := 3) (nx := 929) (ci := 12) (p := p) (u := u) (ls := ls) (st := st) (w := w) (Q := Q) (vs := [z_r p, z_i x0, z_i x1]) ((zF300_13 926 (by decide)).trans rfl) rfl rfl
set_option maxRecDepth 100000 in
theorem g300_929 {d : Nat} {u : Nat × Nat} {ls st : List z_V} {w : z_W} {Q : z_P} {x : Int} : z_G d u 300 929 ls (z_i x :: st) w Q ↔ z_G d u 300 930 ls st w Q := z_gun ((zF300_14 929 (by decide)).trans rfl)
set_option maxRecDepth 100000 in
theorem g300_929r {d : Nat} {u : Nat × Nat} {ls st : List z_V} {w : z_W} {Q : z_P} {k : Nat} : z_G d u 300 929 ls (z_r k :: st) w Q ↔ z_G d u 300 930 ls st w Q := z_gun ((zF300_14 929 (by decide)).trans rfl)
set_option maxRecDepth 100000 in
theorem g300_930 {d : Nat} {u : Nat × Nat} {ls st : List z_V} {w : z_W} {Q : z_P} : z_G d u 300 930 ls st w Q ↔ z_G d u 300 1586 ls st w Q := z_gun ((zF300_14 930 (by decide)).trans rfl)
set_option maxRecDepth 100000 in
theorem g300_933 {d : Nat} {u : Nat × Nat} {ls st : List z_V} {w : z_W} {Q : z_P} {o : Option Nat} {a0 : z_V} : z_G d u 300 933 (a0 :: z_vr o :: ls) st w Q ↔ z_G d u 300 934 (a0 :: z_vr o :: ls) (z_vr o :: st) w Q := z_gun ((zF300_14 933 (by decide)).trans rfl)
set_option maxRecDepth 100000 in
theorem g300_933r {d : Nat} {u : Nat × Nat} {ls st : List z_V} {w : z_W} {Q : z_P} {k : Nat} {a0 : z_V} : z_G d u 300 933 (a0 :: z_r k :: ls) st w Q ↔ z_G d u 300 934 (a0 :: z_r k :: ls) (z_r k :: st) w Q := z_gun ((zF300_14 933 (by decide)).trans rfl)
set_option maxRecDepth 100000 in
theorem g300_934 {d : Nat} {u : Nat × Nat} {ls st : List z_V} {w : z_W} {Q : z_P} {o : Option Nat} : z_G d u 300 934 (z_vr o :: ls) st w Q ↔ z_G d u 300 935 (z_vr o :: ls) (z_vr o :: st) w Q := z_gun ((zF300_14 934 (by decide)).trans rfl)
set_option maxRecDepth 100000 in
theorem g300_934r {d : Nat} {u : Nat × Nat} {ls st : List z_V} {w : z_W} {Q : z_P} {k : Nat} : z_G d u 300 934 (z_r k :: ls) st w Q ↔ z_G d u 300 935 (z_r k :: ls) (z_r k :: st) w Q := z_gun ((zF300_14 934 (by decide)).trans rfl)
set_option maxRecDepth 100000 in
theorem g300_935 {d : Nat} {u : Nat × Nat} {ls st : List z_V} {w : z_W} {Q : z_P} {z : Int} {a0 a1 a2 a3 : z_V} : z_G d u 300 935 (a0 :: a1 :: a2 :: a3 :: z_i z :: ls) st w Q ↔ z_G d u 300 937 (a0 :: a1 :: a2 :: a3 :: z_i z :: ls) (z_i z :: st) w Q := z_gun ((zF300_14 935 (by decide)).trans rfl)
set_option maxRecDepth 100000 in
theorem g300_937 {d : Nat} {u : Nat × Nat} {ls st : List z_V} {w : z_W} {Q : z_P} : z_G d u 300 937 ls st w Q ↔ z_G d u 300 938 ls (z_i (1) :: st) w Q := z_gun ((zF300_14 937 (by decide)).trans rfl)
set_option maxRecDepth 100000 in
theorem g300_938 {d : Nat} {u : Nat × Nat} {ls st : List z_V} {w : z_W} {Q : z_P} {x y : Int} : z_G d u 300 938 ls (z_i y :: z_i x :: st) w Q ↔ z_G d u 300 939 ls (z_i (z_add x y) :: st) w Q := z_gun ((zF300_14 938 (by decide)).trans rfl)
set_option maxRecDepth 100000 in
theorem g300_939 {d : Nat} {u : Nat × Nat} {ls st : List z_V} {w : z_W} {Q : z_P} {p : Nat} {i : Int} : z_G d u 300 939 ls (z_i i :: z_r p :: st) w Q ↔ ((z_k w p = 100 ∨ z_k w p = 103) ∧ 0 ≤ i ∧ i < z_len w p ∧ (z_rg (z_I w p i) → z_G d u 300 940 ls (z_i (z_I w p i) :: st) w Q)) := z_gun ((zF300_14 939 (by decide)).trans rfl)
set_option maxRecDepth 100000 in
theorem g300_940 {d : Nat} {u : Nat × Nat} {ls st : List z_V} {w : z_W} {Q : z_P} {o : Option Nat} : z_G d u 300 940 (z_vr o :: ls) st w Q ↔ z_G d u 300 941 (z_vr o :: ls) (z_vr o :: st) w Q := z_gun ((zF300_14 940 (by decide)).trans rfl)
set_option maxRecDepth 100000 in
theorem g300_940r {d : Nat} {u : Nat × Nat} {ls st : List z_V} {w : z_W} {Q : z_P} {k : Nat} : z_G d u 300 940 (z_r k :: ls) st w Q ↔ z_G d u 300 941 (z_r k :: ls) (z_r k :: st) w Q := z_gun ((zF300_14 940 (by decide)).trans rfl)
set_option maxRecDepth 100000 in
theorem g300_941 {d : Nat} {u : Nat × Nat} {ls st : List z_V} {w : z_W} {Q : z_P} {z : Int} {a0 a1 a2 a3 : z_V} : z_G d u 300 941 (a0 :: a1 :: a2 :: a3 :: z_i z :: ls) st w Q ↔ z_G d u 300 943 (a0 :: a1 :: a2 :: a3 :: z_i z :: ls) (z_i z :: st) w Q := z_gun ((zF300_14 941 (by decide)).trans rfl)
set_option maxRecDepth 100000 in
theorem g300_943 {d : Nat} {u : Nat × Nat} {ls st : List z_V} {w : z_W} {Q : z_P} : z_G d u 300 943 ls st w Q ↔ z_G d u 300 944 ls (z_i (2) :: st) w Q := z_gun ((zF300_14 943 (by decide)).trans rfl)
set_option maxRecDepth 100000 in
theorem g300_944 {d : Nat} {u : Nat × Nat} {ls st : List z_V} {w : z_W} {Q : z_P} {x y : Int} : z_G d u 300 944 ls (z_i y :: z_i x :: st) w Q ↔ z_G d u 300 945 ls (z_i (z_add x y) :: st) w Q := z_gun ((zF300_14 944 (by decide)).trans rfl)
set_option maxRecDepth 100000 in
theorem g300_945 {d : Nat} {u : Nat × Nat} {ls st : List z_V} {w : z_W} {Q : z_P} {p : Nat} {i : Int} : z_G d u 300 945 ls (z_i i :: z_r p :: st) w Q ↔ ((z_k w p = 100 ∨ z_k w p = 103) ∧ 0 ≤ i ∧ i < z_len w p ∧ (z_rg (z_I w p i) → z_G d u 300 946 ls (z_i (z_I w p i) :: st) w Q)) := z_gun ((zF300_14 945 (by decide)).trans rfl)
set_option maxRecDepth 100000 in
theorem g300_946 {d : Nat} {u : Nat × Nat} {ls st : List z_V} {w : z_W} {Q : z_P} {x : Int} : z_G d u 300 946 ls (z_i x :: st) w Q ↔ z_G d u 300 947 ls (z_l (z_i2l x) :: st) w Q := z_gun ((zF300_14 946 (by decide)).trans rfl)
set_option maxRecDepth 100000 in
theorem g300_947 {d : Nat} {u : Nat × Nat} {ls st : List z_V} {w : z_W} {Q : z_P} : z_G d u 300 947 ls st w Q ↔ z_G d u 300 949 ls (z_i (32) :: st) w Q := z_gun ((zF300_14 947 (by decide)).trans rfl)
set_option maxRecDepth 100000 in
theorem g300_949 {d : Nat} {u : Nat × Nat} {ls st : List z_V} {w : z_W} {Q : z_P} {x y : Int} : z_G d u 300 949 ls (z_i y :: z_l x :: st) w Q ↔ z_G d u 300 950 ls (z_l (z_lshl x y) :: st) w Q := z_gun ((zF300_14 949 (by decide)).trans rfl)
set_option maxRecDepth 100000 in
theorem g300_950 {d : Nat} {u : Nat × Nat} {ls st : List z_V} {w : z_W} {Q : z_P} {o : Option Nat} : z_G d u 300 950 (z_vr o :: ls) st w Q ↔ z_G d u 300 951 (z_vr o :: ls) (z_vr o :: st) w Q := z_gun ((zF300_14 950 (by decide)).trans rfl)
set_option maxRecDepth 100000 in
theorem g300_950r {d : Nat} {u : Nat × Nat} {ls st : List z_V} {w : z_W} {Q : z_P} {k : Nat} : z_G d u 300 950 (z_r k :: ls) st w Q ↔ z_G d u 300 951 (z_r k :: ls) (z_r k :: st) w Q := z_gun ((zF300_14 950 (by decide)).trans rfl)
set_option maxRecDepth 100000 in
theorem g300_951 {d : Nat} {u : Nat × Nat} {ls st : List z_V} {w : z_W} {Q : z_P} {z : Int} {a0 a1 a2 a3 : z_V} : z_G d u 300 951 (a0 :: a1 :: a2 :: a3 :: z_i z :: ls) st w Q ↔ z_G d u 300 953 (a0 :: a1 :: a2 :: a3 :: z_i z :: ls) (z_i z :: st) w Q := z_gun ((zF300_14 951 (by decide)).trans rfl)
set_option maxRecDepth 100000 in
theorem g300_953 {d : Nat} {u : Nat × Nat} {ls st : List z_V} {w : z_W} {Q : z_P} : z_G d u 300 953 ls st w Q ↔ z_G d u 300 954 ls (z_i (3) :: st) w Q := z_gun ((zF300_14 953 (by decide)).trans rfl)
set_option maxRecDepth 100000 in
theorem g300_954 {d : Nat} {u : Nat × Nat} {ls st : List z_V} {w : z_W} {Q : z_P} {x y : Int} : z_G d u 300 954 ls (z_i y :: z_i x :: st) w Q ↔ z_G d u 300 955 ls (z_i (z_add x y) :: st) w Q := z_gun ((zF300_14 954 (by decide)).trans rfl)
set_option maxRecDepth 100000 in
theorem g300_955 {d : Nat} {u : Nat × Nat} {ls st : List z_V} {w : z_W} {Q : z_P} {p : Nat} {i : Int} : z_G d u 300 955 ls (z_i i :: z_r p :: st) w Q ↔ ((z_k w p = 100 ∨ z_k w p = 103) ∧ 0 ≤ i ∧ i < z_len w p ∧ (z_rg (z_I w p i) → z_G d u 300 956 ls (z_i (z_I w p i) :: st) w Q)) := z_gun ((zF300_14 955 (by decide)).trans rfl)
set_option maxRecDepth 100000 in
theorem g300_956 {d : Nat} {u : Nat × Nat} {ls st : List z_V} {w : z_W} {Q : z_P} {x : Int} : z_G d u 300 956 ls (z_i x :: st) w Q ↔ z_G d u 300 957 ls (z_l (z_i2l x) :: st) w Q := z_gun ((zF300_14 956 (by decide)).trans rfl)
set_option maxRecDepth 100000 in
theorem g300_957 {d : Nat} {u : Nat × Nat} {ls st : List z_V} {w : z_W} {Q : z_P} : z_G d u 300 957 ls st w Q ↔ z_G d u 300 960 ls (z_l (4294967295) :: st) w Q := z_gun ((zF300_14 957 (by decide)).trans rfl)
set_option maxRecDepth 100000 in
theorem g300_960 {d : Nat} {u : Nat × Nat} {ls st : List z_V} {w : z_W} {Q : z_P} {x y : Int} : z_G d u 300 960 ls (z_l y :: z_l x :: st) w Q ↔ z_G d u 300 961 ls (z_l (z_land x y) :: st) w Q := z_gun ((zF300_14 960 (by decide)).trans rfl)
set_option maxRecDepth 100000 in
theorem g300_961 {d : Nat} {u : Nat × Nat} {ls st : List z_V} {w : z_W} {Q : z_P} {x y : Int} : z_G d u 300 961 ls (z_l y :: z_l x :: st) w Q ↔ z_G d u 300 962 ls (z_l (z_lor x y) :: st) w Q := z_gun ((zF300_14 961 (by decide)).trans rfl)
set_option maxRecDepth 100000 in
theorem g300_962 {d : Nat} {u : Nat × Nat} {ls st : List z_V} {w : z_W} {Q : z_P} {p : Nat} {x0 x1 : Int} : z_G (d + 1) u 300 962 ls (z_l x1 :: z_i x0 :: z_r p :: st) w Q ↔ (z_k w p = 11 ∧ z_c8 st 8 = true ∧ 1 ≤ u.1 ∧ 1 ≤ u.2 ∧ z_G d (1, 1) 143 0 [z_r p, z_i x0, z_l x1, z_x, z_x, z_x] [] w (fun r w' => z_G (d + 1) (u.1 - 1, u.2 - 1) 300 965 ls (r.toList ++ st) w' Q)) := z_gcbV (d := d) (m := 300) (pc := 962) (m' := 143) (k := 3) (nL := 6) (nx := 965) (b := (1, 1)) (ci := 11) (p := p) (u := u) (ls := ls) (st := st) (w := w) (Q := Q) (vs := [z_r p, z_i x0, z_l x1]) ((zF300_14 962 (by decide)).trans rfl) rfl rfl
set_option maxRecDepth 100000 in
theorem g300_965 {d : Nat} {u : Nat × Nat} {ls st : List z_V} {w : z_W} {Q : z_P} {x : Int} : z_G d u 300 965 ls (z_i x :: st) w Q ↔ z_G d u 300 966 ls st w Q := z_gun ((zF300_14 965 (by decide)).trans rfl)
set_option maxRecDepth 100000 in
theorem g300_965r {d : Nat} {u : Nat × Nat} {ls st : List z_V} {w : z_W} {Q : z_P} {k : Nat} : z_G d u 300 965 ls (z_r k :: st) w Q ↔ z_G d u 300 966 ls st w Q := z_gun ((zF300_14 965 (by decide)).trans rfl)
set_option maxRecDepth 100000 in
theorem g300_966 {d : Nat} {u : Nat × Nat} {ls st : List z_V} {w : z_W} {Q : z_P} {o : Option Nat} {a0 a1 : z_V} : z_G d u 300 966 (a0 :: a1 :: z_vr o :: ls) st w Q ↔ z_G d u 300 967 (a0 :: a1 :: z_vr o :: ls) (z_vr o :: st) w Q := z_gun ((zF300_14 966 (by decide)).trans rfl)
set_option maxRecDepth 100000 in
theorem g300_966r {d : Nat} {u : Nat × Nat} {ls st : List z_V} {w : z_W} {Q : z_P} {k : Nat} {a0 a1 : z_V} : z_G d u 300 966 (a0 :: a1 :: z_r k :: ls) st w Q ↔ z_G d u 300 967 (a0 :: a1 :: z_r k :: ls) (z_r k :: st) w Q := z_gun ((zF300_14 966 (by decide)).trans rfl)
set_option maxRecDepth 100000 in
theorem g300_967 {d : Nat} {u : Nat × Nat} {ls st : List z_V} {w : z_W} {Q : z_P} {o : Option Nat} : z_G d u 300 967 (z_vr o :: ls) st w Q ↔ z_G d u 300 968 (z_vr o :: ls) (z_vr o :: st) w Q := z_gun ((zF300_14 967 (by decide)).trans rfl)
set_option maxRecDepth 100000 in
theorem g300_967r {d : Nat} {u : Nat × Nat} {ls st : List z_V} {w : z_W} {Q : z_P} {k : Nat} : z_G d u 300 967 (z_r k :: ls) st w Q ↔ z_G d u 300 968 (z_r k :: ls) (z_r k :: st) w Q := z_gun ((zF300_14 967 (by decide)).trans rfl)
set_option maxRecDepth 100000 in
theorem g300_968 {d : Nat} {u : Nat × Nat} {ls st : List z_V} {w : z_W} {Q : z_P} {z : Int} {a0 a1 a2 a3 : z_V} : z_G d u 300 968 (a0 :: a1 :: a2 :: a3 :: z_i z :: ls) st w Q ↔ z_G d u 300 970 (a0 :: a1 :: a2 :: a3 :: z_i z :: ls) (z_i z :: st) w Q := z_gun ((zF300_14 968 (by decide)).trans rfl)
set_option maxRecDepth 100000 in
theorem g300_970 {d : Nat} {u : Nat × Nat} {ls st : List z_V} {w : z_W} {Q : z_P} : z_G d u 300 970 ls st w Q ↔ z_G d u 300 971 ls (z_i (1) :: st) w Q := z_gun ((zF300_14 970 (by decide)).trans rfl)
set_option maxRecDepth 100000 in
theorem g300_971 {d : Nat} {u : Nat × Nat} {ls st : List z_V} {w : z_W} {Q : z_P} {x y : Int} : z_G d u 300 971 ls (z_i y :: z_i x :: st) w Q ↔ z_G d u 300 972 ls (z_i (z_add x y) :: st) w Q := z_gun ((zF300_14 971 (by decide)).trans rfl)
set_option maxRecDepth 100000 in
theorem g300_972 {d : Nat} {u : Nat × Nat} {ls st : List z_V} {w : z_W} {Q : z_P} {p : Nat} {i : Int} : z_G d u 300 972 ls (z_i i :: z_r p :: st) w Q ↔ ((z_k w p = 100 ∨ z_k w p = 103) ∧ 0 ≤ i ∧ i < z_len w p ∧ (z_rg (z_I w p i) → z_G d u 300 973 ls (z_i (z_I w p i) :: st) w Q)) := z_gun ((zF300_14 972 (by decide)).trans rfl)
set_option maxRecDepth 100000 in
theorem g300_973 {d : Nat} {u : Nat × Nat} {ls st : List z_V} {w : z_W} {Q : z_P} {o : Option Nat} : z_G d u 300 973 (z_vr o :: ls) st w Q ↔ z_G d u 300 974 (z_vr o :: ls) (z_vr o :: st) w Q := z_gun ((zF300_14 973 (by decide)).trans rfl)
set_option maxRecDepth 100000 in
theorem g300_973r {d : Nat} {u : Nat × Nat} {ls st : List z_V} {w : z_W} {Q : z_P} {k : Nat} : z_G d u 300 973 (z_r k :: ls) st w Q ↔ z_G d u 300 974 (z_r k :: ls) (z_r k :: st) w Q := z_gun ((zF300_14 973 (by decide)).trans rfl)
set_option maxRecDepth 100000 in
theorem g300_974 {d : Nat} {u : Nat × Nat} {ls st : List z_V} {w : z_W} {Q : z_P} {z : Int} {a0 a1 a2 a3 : z_V} : z_G d u 300 974 (a0 :: a1 :: a2 :: a3 :: z_i z :: ls) st w Q ↔ z_G d u 300 976 (a0 :: a1 :: a2 :: a3 :: z_i z :: ls) (z_i z :: st) w Q := z_gun ((zF300_14 974 (by decide)).trans rfl)
set_option maxRecDepth 100000 in
theorem g300_976 {d : Nat} {u : Nat × Nat} {ls st : List z_V} {w : z_W} {Q : z_P} : z_G d u 300 976 ls st w Q ↔ z_G d u 300 977 ls (z_i (2) :: st) w Q := z_gun ((zF300_14 976 (by decide)).trans rfl)
set_option maxRecDepth 100000 in
theorem g300_977 {d : Nat} {u : Nat × Nat} {ls st : List z_V} {w : z_W} {Q : z_P} {x y : Int} : z_G d u 300 977 ls (z_i y :: z_i x :: st) w Q ↔ z_G d u 300 978 ls (z_i (z_add x y) :: st) w Q := z_gun ((zF300_14 977 (by decide)).trans rfl)
set_option maxRecDepth 100000 in
theorem g300_978 {d : Nat} {u : Nat × Nat} {ls st : List z_V} {w : z_W} {Q : z_P} {p : Nat} {i : Int} : z_G d u 300 978 ls (z_i i :: z_r p :: st) w Q ↔ ((z_k w p = 100 ∨ z_k w p = 103) ∧ 0 ≤ i ∧ i < z_len w p ∧ (z_rg (z_I w p i) → z_G d u 300 979 ls (z_i (z_I w p i) :: st) w Q)) := z_gun ((zF300_14 978 (by decide)).trans rfl)
set_option maxRecDepth 100000 in
theorem g300_979 {d : Nat} {u : Nat × Nat} {ls st : List z_V} {w : z_W} {Q : z_P} {x : Int} : z_G d u 300 979 ls (z_i x :: st) w Q ↔ z_G d u 300 980 ls (z_l (z_i2l x) :: st) w Q := z_gun ((zF300_14 979 (by decide)).trans rfl)
set_option maxRecDepth 100000 in
theorem g300_980 {d : Nat} {u : Nat × Nat} {ls st : List z_V} {w : z_W} {Q : z_P} : z_G d u 300 980 ls st w Q ↔ z_G d u 300 982 ls (z_i (32) :: st) w Q := z_gun ((zF300_14 980 (by decide)).trans rfl)
set_option maxRecDepth 100000 in
theorem g300_982 {d : Nat} {u : Nat × Nat} {ls st : List z_V} {w : z_W} {Q : z_P} {x y : Int} : z_G d u 300 982 ls (z_i y :: z_l x :: st) w Q ↔ z_G d u 300 983 ls (z_l (z_lshl x y) :: st) w Q := z_gun ((zF300_15 982 (by decide)).trans rfl)
set_option maxRecDepth 100000 in
theorem g300_983 {d : Nat} {u : Nat × Nat} {ls st : List z_V} {w : z_W} {Q : z_P} {o : Option Nat} : z_G d u 300 983 (z_vr o :: ls) st w Q ↔ z_G d u 300 984 (z_vr o :: ls) (z_vr o :: st) w Q := z_gun ((zF300_15 983 (by decide)).trans rfl)
set_option maxRecDepth 100000 in
theorem g300_983r {d : Nat} {u : Nat × Nat} {ls st : List z_V} {w : z_W} {Q : z_P} {k : Nat} : z_G d u 300 983 (z_r k :: ls) st w Q ↔ z_G d u 300 984 (z_r k :: ls) (z_r k :: st) w Q := z_gun ((zF300_15 983 (by decide)).trans rfl)
set_option maxRecDepth 100000 in
theorem g300_984 {d : Nat} {u : Nat × Nat} {ls st : List z_V} {w : z_W} {Q : z_P} {z : Int} {a0 a1 a2 a3 : z_V} : z_G d u 300 984 (a0 :: a1 :: a2 :: a3 :: z_i z :: ls) st w Q ↔ z_G d u 300 986 (a0 :: a1 :: a2 :: a3 :: z_i z :: ls) (z_i z :: st) w Q := z_gun ((zF300_15 984 (by decide)).trans rfl)
set_option maxRecDepth 100000 in
theorem g300_986 {d : Nat} {u : Nat × Nat} {ls st : List z_V} {w : z_W} {Q : z_P} : z_G d u 300 986 ls st w Q ↔ z_G d u 300 987 ls (z_i (3) :: st) w Q := z_gun ((zF300_15 986 (by decide)).trans rfl)
set_option maxRecDepth 100000 in
theorem g300_987 {d : Nat} {u : Nat × Nat} {ls st : List z_V} {w : z_W} {Q : z_P} {x y : Int} : z_G d u 300 987 ls (z_i y :: z_i x :: st) w Q ↔ z_G d u 300 988 ls (z_i (z_add x y) :: st) w Q := z_gun ((zF300_15 987 (by decide)).trans rfl)
