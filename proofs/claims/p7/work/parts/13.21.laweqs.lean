set_option maxRecDepth 100000 in
theorem g300_572 {d : Nat} {u : Nat × Nat} {ls st : List z_V} {w : z_W} {Q : z_P} {p : Nat} {i : Int} : z_G d u 300 572 ls (z_i i :: z_r p :: st) w Q ↔ ((z_k w p = 100 ∨ z_k w p = 103) ∧ 0 ≤ i ∧ i < z_len w p ∧ (z_rg (z_I w p i) → z_G d u 300 573 ls (z_i (z_I w p i) :: st) w Q)) := z_gun ((zF300_7 572 (by decide)).trans rfl)
set_option maxRecDepth 100000 in
theorem g300_573 {d : Nat} {u : Nat × Nat} {ls st : List z_V} {w : z_W} {Q : z_P} {p : Nat} {x0 x1 x2 x3 : Int} : z_G (d + 1) u 300 573 ls (z_i x3 :: z_i x2 :: z_i x1 :: z_i x0 :: z_r p :: st) w Q ↔ (z_k w p = 12 ∧ z_c8 st 8 = true ∧ z_G d (0, 0) 257 0 [z_r p, z_i x0, z_i x1, z_i x2, z_i x3] [] w (fun r w' => z_G (d + 1) u 300 576 ls (r.toList ++ st) w' Q)) := z_gcaV (d := d) (m := 300) (pc := 573) (m' := 257) (k := 5) (nL := 5) (nx := 576) (ci := 12) (p := p) (u := u) (ls := ls) (st := st) (w := w) (Q := Q) (vs := [z_r p, z_i x0, z_i x1, z_i x2, z_i x3]) ((zF300_7 573 (by decide)).trans rfl) rfl rfl
set_option maxRecDepth 100000 in
theorem g300_576 {d : Nat} {u : Nat × Nat} {ls st : List z_V} {w : z_W} {Q : z_P} {x : Int} : z_G d u 300 576 ls (z_i x :: st) w Q ↔ z_G d u 300 577 ls st w Q := z_gun ((zF300_7 576 (by decide)).trans rfl)
set_option maxRecDepth 100000 in
theorem g300_576r {d : Nat} {u : Nat × Nat} {ls st : List z_V} {w : z_W} {Q : z_P} {k : Nat} : z_G d u 300 576 ls (z_r k :: st) w Q ↔ z_G d u 300 577 ls st w Q := z_gun ((zF300_7 576 (by decide)).trans rfl)
set_option maxRecDepth 100000 in
theorem g300_577 {d : Nat} {u : Nat × Nat} {ls st : List z_V} {w : z_W} {Q : z_P} : z_G d u 300 577 ls st w Q ↔ z_G d u 300 1614 ls st w Q := z_gun ((zF300_7 577 (by decide)).trans rfl)
set_option maxRecDepth 100000 in
theorem g300_580 {d : Nat} {u : Nat × Nat} {ls st : List z_V} {w : z_W} {Q : z_P} {o : Option Nat} {a0 : z_V} : z_G d u 300 580 (a0 :: z_vr o :: ls) st w Q ↔ z_G d u 300 581 (a0 :: z_vr o :: ls) (z_vr o :: st) w Q := z_gun ((zF300_7 580 (by decide)).trans rfl)
set_option maxRecDepth 100000 in
theorem g300_580r {d : Nat} {u : Nat × Nat} {ls st : List z_V} {w : z_W} {Q : z_P} {k : Nat} {a0 : z_V} : z_G d u 300 580 (a0 :: z_r k :: ls) st w Q ↔ z_G d u 300 581 (a0 :: z_r k :: ls) (z_r k :: st) w Q := z_gun ((zF300_7 580 (by decide)).trans rfl)
set_option maxRecDepth 100000 in
theorem g300_581 {d : Nat} {u : Nat × Nat} {ls st : List z_V} {w : z_W} {Q : z_P} {o : Option Nat} : z_G d u 300 581 (z_vr o :: ls) st w Q ↔ z_G d u 300 582 (z_vr o :: ls) (z_vr o :: st) w Q := z_gun ((zF300_7 581 (by decide)).trans rfl)
set_option maxRecDepth 100000 in
theorem g300_581r {d : Nat} {u : Nat × Nat} {ls st : List z_V} {w : z_W} {Q : z_P} {k : Nat} : z_G d u 300 581 (z_r k :: ls) st w Q ↔ z_G d u 300 582 (z_r k :: ls) (z_r k :: st) w Q := z_gun ((zF300_7 581 (by decide)).trans rfl)
set_option maxRecDepth 100000 in
theorem g300_582 {d : Nat} {u : Nat × Nat} {ls st : List z_V} {w : z_W} {Q : z_P} {z : Int} {a0 a1 a2 a3 : z_V} : z_G d u 300 582 (a0 :: a1 :: a2 :: a3 :: z_i z :: ls) st w Q ↔ z_G d u 300 584 (a0 :: a1 :: a2 :: a3 :: z_i z :: ls) (z_i z :: st) w Q := z_gun ((zF300_7 582 (by decide)).trans rfl)
set_option maxRecDepth 100000 in
theorem g300_584 {d : Nat} {u : Nat × Nat} {ls st : List z_V} {w : z_W} {Q : z_P} : z_G d u 300 584 ls st w Q ↔ z_G d u 300 585 ls (z_i (1) :: st) w Q := z_gun ((zF300_7 584 (by decide)).trans rfl)
set_option maxRecDepth 100000 in
theorem g300_585 {d : Nat} {u : Nat × Nat} {ls st : List z_V} {w : z_W} {Q : z_P} {x y : Int} : z_G d u 300 585 ls (z_i y :: z_i x :: st) w Q ↔ z_G d u 300 586 ls (z_i (z_add x y) :: st) w Q := z_gun ((zF300_7 585 (by decide)).trans rfl)
set_option maxRecDepth 100000 in
theorem g300_586 {d : Nat} {u : Nat × Nat} {ls st : List z_V} {w : z_W} {Q : z_P} {p : Nat} {i : Int} : z_G d u 300 586 ls (z_i i :: z_r p :: st) w Q ↔ ((z_k w p = 100 ∨ z_k w p = 103) ∧ 0 ≤ i ∧ i < z_len w p ∧ (z_rg (z_I w p i) → z_G d u 300 587 ls (z_i (z_I w p i) :: st) w Q)) := z_gun ((zF300_7 586 (by decide)).trans rfl)
set_option maxRecDepth 100000 in
theorem g300_587 {d : Nat} {u : Nat × Nat} {ls st : List z_V} {w : z_W} {Q : z_P} {o : Option Nat} : z_G d u 300 587 (z_vr o :: ls) st w Q ↔ z_G d u 300 588 (z_vr o :: ls) (z_vr o :: st) w Q := z_gun ((zF300_7 587 (by decide)).trans rfl)
set_option maxRecDepth 100000 in
theorem g300_587r {d : Nat} {u : Nat × Nat} {ls st : List z_V} {w : z_W} {Q : z_P} {k : Nat} : z_G d u 300 587 (z_r k :: ls) st w Q ↔ z_G d u 300 588 (z_r k :: ls) (z_r k :: st) w Q := z_gun ((zF300_7 587 (by decide)).trans rfl)
set_option maxRecDepth 100000 in
theorem g300_588 {d : Nat} {u : Nat × Nat} {ls st : List z_V} {w : z_W} {Q : z_P} {z : Int} {a0 a1 a2 a3 : z_V} : z_G d u 300 588 (a0 :: a1 :: a2 :: a3 :: z_i z :: ls) st w Q ↔ z_G d u 300 590 (a0 :: a1 :: a2 :: a3 :: z_i z :: ls) (z_i z :: st) w Q := z_gun ((zF300_7 588 (by decide)).trans rfl)
set_option maxRecDepth 100000 in
theorem g300_590 {d : Nat} {u : Nat × Nat} {ls st : List z_V} {w : z_W} {Q : z_P} : z_G d u 300 590 ls st w Q ↔ z_G d u 300 591 ls (z_i (2) :: st) w Q := z_gun ((zF300_7 590 (by decide)).trans rfl)
set_option maxRecDepth 100000 in
theorem g300_591 {d : Nat} {u : Nat × Nat} {ls st : List z_V} {w : z_W} {Q : z_P} {x y : Int} : z_G d u 300 591 ls (z_i y :: z_i x :: st) w Q ↔ z_G d u 300 592 ls (z_i (z_add x y) :: st) w Q := z_gun ((zF300_7 591 (by decide)).trans rfl)
set_option maxRecDepth 100000 in
theorem g300_592 {d : Nat} {u : Nat × Nat} {ls st : List z_V} {w : z_W} {Q : z_P} {p : Nat} {i : Int} : z_G d u 300 592 ls (z_i i :: z_r p :: st) w Q ↔ ((z_k w p = 100 ∨ z_k w p = 103) ∧ 0 ≤ i ∧ i < z_len w p ∧ (z_rg (z_I w p i) → z_G d u 300 593 ls (z_i (z_I w p i) :: st) w Q)) := z_gun ((zF300_7 592 (by decide)).trans rfl)
set_option maxRecDepth 100000 in
theorem g300_593 {d : Nat} {u : Nat × Nat} {ls st : List z_V} {w : z_W} {Q : z_P} {o : Option Nat} : z_G d u 300 593 (z_vr o :: ls) st w Q ↔ z_G d u 300 594 (z_vr o :: ls) (z_vr o :: st) w Q := z_gun ((zF300_7 593 (by decide)).trans rfl)
set_option maxRecDepth 100000 in
theorem g300_593r {d : Nat} {u : Nat × Nat} {ls st : List z_V} {w : z_W} {Q : z_P} {k : Nat} : z_G d u 300 593 (z_r k :: ls) st w Q ↔ z_G d u 300 594 (z_r k :: ls) (z_r k :: st) w Q := z_gun ((zF300_7 593 (by decide)).trans rfl)
set_option maxRecDepth 100000 in
theorem g300_594 {d : Nat} {u : Nat × Nat} {ls st : List z_V} {w : z_W} {Q : z_P} {z : Int} {a0 a1 a2 a3 : z_V} : z_G d u 300 594 (a0 :: a1 :: a2 :: a3 :: z_i z :: ls) st w Q ↔ z_G d u 300 596 (a0 :: a1 :: a2 :: a3 :: z_i z :: ls) (z_i z :: st) w Q := z_gun ((zF300_7 594 (by decide)).trans rfl)
set_option maxRecDepth 100000 in
theorem g300_596 {d : Nat} {u : Nat × Nat} {ls st : List z_V} {w : z_W} {Q : z_P} : z_G d u 300 596 ls st w Q ↔ z_G d u 300 597 ls (z_i (3) :: st) w Q := z_gun ((zF300_7 596 (by decide)).trans rfl)
set_option maxRecDepth 100000 in
theorem g300_597 {d : Nat} {u : Nat × Nat} {ls st : List z_V} {w : z_W} {Q : z_P} {x y : Int} : z_G d u 300 597 ls (z_i y :: z_i x :: st) w Q ↔ z_G d u 300 598 ls (z_i (z_add x y) :: st) w Q := z_gun ((zF300_7 597 (by decide)).trans rfl)
set_option maxRecDepth 100000 in
theorem g300_598 {d : Nat} {u : Nat × Nat} {ls st : List z_V} {w : z_W} {Q : z_P} {p : Nat} {i : Int} : z_G d u 300 598 ls (z_i i :: z_r p :: st) w Q ↔ ((z_k w p = 100 ∨ z_k w p = 103) ∧ 0 ≤ i ∧ i < z_len w p ∧ (z_rg (z_I w p i) → z_G d u 300 599 ls (z_i (z_I w p i) :: st) w Q)) := z_gun ((zF300_7 598 (by decide)).trans rfl)
set_option maxRecDepth 100000 in
theorem g300_599 {d : Nat} {u : Nat × Nat} {ls st : List z_V} {w : z_W} {Q : z_P} {p : Nat} {x0 x1 x2 : Int} : z_G (d + 1) u 300 599 ls (z_i x2 :: z_i x1 :: z_i x0 :: z_r p :: st) w Q ↔ (z_k w p = 11 ∧ z_c8 st 8 = true ∧ z_G d (0, 0) 132 0 [z_r p, z_i x0, z_i x1, z_i x2, z_x, z_x] [] w (fun r w' => z_G (d + 1) u 300 602 ls (r.toList ++ st) w' Q)) := z_gcaV (d := d) (m := 300) (pc := 599) (m' := 132) (k := 4) (nL := 6) (nx := 602) (ci := 11) (p := p) (u := u) (ls := ls) (st := st) (w := w) (Q := Q) (vs := [z_r p, z_i x0, z_i x1, z_i x2]) ((zF300_7 599 (by decide)).trans rfl) rfl rfl
set_option maxRecDepth 100000 in
theorem g300_602 {d : Nat} {u : Nat × Nat} {ls st : List z_V} {w : z_W} {Q : z_P} {x : Int} : z_G d u 300 602 ls (z_i x :: st) w Q ↔ z_G d u 300 603 ls st w Q := z_gun ((zF300_7 602 (by decide)).trans rfl)
set_option maxRecDepth 100000 in
theorem g300_602r {d : Nat} {u : Nat × Nat} {ls st : List z_V} {w : z_W} {Q : z_P} {k : Nat} : z_G d u 300 602 ls (z_r k :: st) w Q ↔ z_G d u 300 603 ls st w Q := z_gun ((zF300_7 602 (by decide)).trans rfl)
set_option maxRecDepth 100000 in
theorem g300_603 {d : Nat} {u : Nat × Nat} {ls st : List z_V} {w : z_W} {Q : z_P} {o : Option Nat} {a0 a1 : z_V} : z_G d u 300 603 (a0 :: a1 :: z_vr o :: ls) st w Q ↔ z_G d u 300 604 (a0 :: a1 :: z_vr o :: ls) (z_vr o :: st) w Q := z_gun ((zF300_7 603 (by decide)).trans rfl)
set_option maxRecDepth 100000 in
theorem g300_603r {d : Nat} {u : Nat × Nat} {ls st : List z_V} {w : z_W} {Q : z_P} {k : Nat} {a0 a1 : z_V} : z_G d u 300 603 (a0 :: a1 :: z_r k :: ls) st w Q ↔ z_G d u 300 604 (a0 :: a1 :: z_r k :: ls) (z_r k :: st) w Q := z_gun ((zF300_7 603 (by decide)).trans rfl)
set_option maxRecDepth 100000 in
theorem g300_604 {d : Nat} {u : Nat × Nat} {ls st : List z_V} {w : z_W} {Q : z_P} {o : Option Nat} : z_G d u 300 604 (z_vr o :: ls) st w Q ↔ z_G d u 300 605 (z_vr o :: ls) (z_vr o :: st) w Q := z_gun ((zF300_7 604 (by decide)).trans rfl)
set_option maxRecDepth 100000 in
theorem g300_604r {d : Nat} {u : Nat × Nat} {ls st : List z_V} {w : z_W} {Q : z_P} {k : Nat} : z_G d u 300 604 (z_r k :: ls) st w Q ↔ z_G d u 300 605 (z_r k :: ls) (z_r k :: st) w Q := z_gun ((zF300_7 604 (by decide)).trans rfl)
set_option maxRecDepth 100000 in
theorem g300_605 {d : Nat} {u : Nat × Nat} {ls st : List z_V} {w : z_W} {Q : z_P} {z : Int} {a0 a1 a2 a3 : z_V} : z_G d u 300 605 (a0 :: a1 :: a2 :: a3 :: z_i z :: ls) st w Q ↔ z_G d u 300 607 (a0 :: a1 :: a2 :: a3 :: z_i z :: ls) (z_i z :: st) w Q := z_gun ((zF300_7 605 (by decide)).trans rfl)
set_option maxRecDepth 100000 in
theorem g300_607 {d : Nat} {u : Nat × Nat} {ls st : List z_V} {w : z_W} {Q : z_P} : z_G d u 300 607 ls st w Q ↔ z_G d u 300 608 ls (z_i (1) :: st) w Q := z_gun ((zF300_7 607 (by decide)).trans rfl)
set_option maxRecDepth 100000 in
theorem g300_608 {d : Nat} {u : Nat × Nat} {ls st : List z_V} {w : z_W} {Q : z_P} {x y : Int} : z_G d u 300 608 ls (z_i y :: z_i x :: st) w Q ↔ z_G d u 300 609 ls (z_i (z_add x y) :: st) w Q := z_gun ((zF300_7 608 (by decide)).trans rfl)
set_option maxRecDepth 100000 in
theorem g300_609 {d : Nat} {u : Nat × Nat} {ls st : List z_V} {w : z_W} {Q : z_P} {p : Nat} {i : Int} : z_G d u 300 609 ls (z_i i :: z_r p :: st) w Q ↔ ((z_k w p = 100 ∨ z_k w p = 103) ∧ 0 ≤ i ∧ i < z_len w p ∧ (z_rg (z_I w p i) → z_G d u 300 610 ls (z_i (z_I w p i) :: st) w Q)) := z_gun ((zF300_7 609 (by decide)).trans rfl)
set_option maxRecDepth 100000 in
theorem g300_610 {d : Nat} {u : Nat × Nat} {ls st : List z_V} {w : z_W} {Q : z_P} {o : Option Nat} : z_G d u 300 610 (z_vr o :: ls) st w Q ↔ z_G d u 300 611 (z_vr o :: ls) (z_vr o :: st) w Q := z_gun ((zF300_8 610 (by decide)).trans rfl)
set_option maxRecDepth 100000 in
theorem g300_610r {d : Nat} {u : Nat × Nat} {ls st : List z_V} {w : z_W} {Q : z_P} {k : Nat} : z_G d u 300 610 (z_r k :: ls) st w Q ↔ z_G d u 300 611 (z_r k :: ls) (z_r k :: st) w Q := z_gun ((zF300_8 610 (by decide)).trans rfl)
set_option maxRecDepth 100000 in
theorem g300_611 {d : Nat} {u : Nat × Nat} {ls st : List z_V} {w : z_W} {Q : z_P} {z : Int} {a0 a1 a2 a3 : z_V} : z_G d u 300 611 (a0 :: a1 :: a2 :: a3 :: z_i z :: ls) st w Q ↔ z_G d u 300 613 (a0 :: a1 :: a2 :: a3 :: z_i z :: ls) (z_i z :: st) w Q := z_gun ((zF300_8 611 (by decide)).trans rfl)
set_option maxRecDepth 100000 in
theorem g300_613 {d : Nat} {u : Nat × Nat} {ls st : List z_V} {w : z_W} {Q : z_P} : z_G d u 300 613 ls st w Q ↔ z_G d u 300 614 ls (z_i (2) :: st) w Q := z_gun ((zF300_8 613 (by decide)).trans rfl)
set_option maxRecDepth 100000 in
theorem g300_614 {d : Nat} {u : Nat × Nat} {ls st : List z_V} {w : z_W} {Q : z_P} {x y : Int} : z_G d u 300 614 ls (z_i y :: z_i x :: st) w Q ↔ z_G d u 300 615 ls (z_i (z_add x y) :: st) w Q := z_gun ((zF300_8 614 (by decide)).trans rfl)
set_option maxRecDepth 100000 in
theorem g300_615 {d : Nat} {u : Nat × Nat} {ls st : List z_V} {w : z_W} {Q : z_P} {p : Nat} {i : Int} : z_G d u 300 615 ls (z_i i :: z_r p :: st) w Q ↔ ((z_k w p = 100 ∨ z_k w p = 103) ∧ 0 ≤ i ∧ i < z_len w p ∧ (z_rg (z_I w p i) → z_G d u 300 616 ls (z_i (z_I w p i) :: st) w Q)) := z_gun ((zF300_8 615 (by decide)).trans rfl)
set_option maxRecDepth 100000 in
theorem g300_616 {d : Nat} {u : Nat × Nat} {ls st : List z_V} {w : z_W} {Q : z_P} {o : Option Nat} : z_G d u 300 616 (z_vr o :: ls) st w Q ↔ z_G d u 300 617 (z_vr o :: ls) (z_vr o :: st) w Q := z_gun ((zF300_8 616 (by decide)).trans rfl)
set_option maxRecDepth 100000 in
theorem g300_616r {d : Nat} {u : Nat × Nat} {ls st : List z_V} {w : z_W} {Q : z_P} {k : Nat} : z_G d u 300 616 (z_r k :: ls) st w Q ↔ z_G d u 300 617 (z_r k :: ls) (z_r k :: st) w Q := z_gun ((zF300_8 616 (by decide)).trans rfl)
set_option maxRecDepth 100000 in
theorem g300_617 {d : Nat} {u : Nat × Nat} {ls st : List z_V} {w : z_W} {Q : z_P} {z : Int} {a0 a1 a2 a3 : z_V} : z_G d u 300 617 (a0 :: a1 :: a2 :: a3 :: z_i z :: ls) st w Q ↔ z_G d u 300 619 (a0 :: a1 :: a2 :: a3 :: z_i z :: ls) (z_i z :: st) w Q := z_gun ((zF300_8 617 (by decide)).trans rfl)
set_option maxRecDepth 100000 in
theorem g300_619 {d : Nat} {u : Nat × Nat} {ls st : List z_V} {w : z_W} {Q : z_P} : z_G d u 300 619 ls st w Q ↔ z_G d u 300 620 ls (z_i (3) :: st) w Q := z_gun ((zF300_8 619 (by decide)).trans rfl)
set_option maxRecDepth 100000 in
theorem g300_620 {d : Nat} {u : Nat × Nat} {ls st : List z_V} {w : z_W} {Q : z_P} {x y : Int} : z_G d u 300 620 ls (z_i y :: z_i x :: st) w Q ↔ z_G d u 300 621 ls (z_i (z_add x y) :: st) w Q := z_gun ((zF300_8 620 (by decide)).trans rfl)
set_option maxRecDepth 100000 in
theorem g300_621 {d : Nat} {u : Nat × Nat} {ls st : List z_V} {w : z_W} {Q : z_P} {p : Nat} {i : Int} : z_G d u 300 621 ls (z_i i :: z_r p :: st) w Q ↔ ((z_k w p = 100 ∨ z_k w p = 103) ∧ 0 ≤ i ∧ i < z_len w p ∧ (z_rg (z_I w p i) → z_G d u 300 622 ls (z_i (z_I w p i) :: st) w Q)) := z_gun ((zF300_8 621 (by decide)).trans rfl)
set_option maxRecDepth 100000 in
theorem g300_622 {d : Nat} {u : Nat × Nat} {ls st : List z_V} {w : z_W} {Q : z_P} {p : Nat} {x0 x1 x2 : Int} : z_G (d + 1) u 300 622 ls (z_i x2 :: z_i x1 :: z_i x0 :: z_r p :: st) w Q ↔ (z_k w p = 12 ∧ z_c8 st 8 = true ∧ z_G d (0, 0) 258 0 [z_r p, z_i x0, z_i x1, z_i x2, z_x] [] w (fun r w' => z_G (d + 1) u 300 625 ls (r.toList ++ st) w' Q)) := z_gcaV (d := d) (m := 300) (pc := 622) (m' := 258) (k := 4) (nL := 5) (nx := 625) (ci := 12) (p := p) (u := u) (ls := ls) (st := st) (w := w) (Q := Q) (vs := [z_r p, z_i x0, z_i x1, z_i x2]) ((zF300_8 622 (by decide)).trans rfl) rfl rfl
set_option maxRecDepth 100000 in
theorem g300_625 {d : Nat} {u : Nat × Nat} {ls st : List z_V} {w : z_W} {Q : z_P} {x : Int} : z_G d u 300 625 ls (z_i x :: st) w Q ↔ z_G d u 300 626 ls st w Q := z_gun ((zF300_8 625 (by decide)).trans rfl)
set_option maxRecDepth 100000 in
theorem g300_625r {d : Nat} {u : Nat × Nat} {ls st : List z_V} {w : z_W} {Q : z_P} {k : Nat} : z_G d u 300 625 ls (z_r k :: st) w Q ↔ z_G d u 300 626 ls st w Q := z_gun ((zF300_8 625 (by decide)).trans rfl)
set_option maxRecDepth 100000 in
theorem g300_626 {d : Nat} {u : Nat × Nat} {ls st : List z_V} {w : z_W} {Q : z_P} : z_G d u 300 626 ls st w Q ↔ z_G d u 300 1614 ls st w Q := z_gun ((zF300_8 626 (by decide)).trans rfl)
set_option maxRecDepth 100000 in
theorem g300_629 {d : Nat} {u : Nat × Nat} {ls st : List z_V} {w : z_W} {Q : z_P} {o : Option Nat} {a0 : z_V} : z_G d u 300 629 (a0 :: z_vr o :: ls) st w Q ↔ z_G d u 300 630 (a0 :: z_vr o :: ls) (z_vr o :: st) w Q := z_gun ((zF300_8 629 (by decide)).trans rfl)
set_option maxRecDepth 100000 in
theorem g300_629r {d : Nat} {u : Nat × Nat} {ls st : List z_V} {w : z_W} {Q : z_P} {k : Nat} {a0 : z_V} : z_G d u 300 629 (a0 :: z_r k :: ls) st w Q ↔ z_G d u 300 630 (a0 :: z_r k :: ls) (z_r k :: st) w Q := z_gun ((zF300_8 629 (by decide)).trans rfl)
set_option maxRecDepth 100000 in
theorem g300_630 {d : Nat} {u : Nat × Nat} {ls st : List z_V} {w : z_W} {Q : z_P} {o : Option Nat} : z_G d u 300 630 (z_vr o :: ls) st w Q ↔ z_G d u 300 631 (z_vr o :: ls) (z_vr o :: st) w Q := z_gun ((zF300_8 630 (by decide)).trans rfl)
set_option maxRecDepth 100000 in
theorem g300_630r {d : Nat} {u : Nat × Nat} {ls st : List z_V} {w : z_W} {Q : z_P} {k : Nat} : z_G d u 300 630 (z_r k :: ls) st w Q ↔ z_G d u 300 631 (z_r k :: ls) (z_r k :: st) w Q := z_gun ((zF300_8 630 (by decide)).trans rfl)
set_option maxRecDepth 100000 in
theorem g300_631 {d : Nat} {u : Nat × Nat} {ls st : List z_V} {w : z_W} {Q : z_P} {z : Int} {a0 a1 a2 a3 : z_V} : z_G d u 300 631 (a0 :: a1 :: a2 :: a3 :: z_i z :: ls) st w Q ↔ z_G d u 300 633 (a0 :: a1 :: a2 :: a3 :: z_i z :: ls) (z_i z :: st) w Q := z_gun ((zF300_8 631 (by decide)).trans rfl)
set_option maxRecDepth 100000 in
theorem g300_633 {d : Nat} {u : Nat × Nat} {ls st : List z_V} {w : z_W} {Q : z_P} : z_G d u 300 633 ls st w Q ↔ z_G d u 300 634 ls (z_i (1) :: st) w Q := z_gun ((zF300_8 633 (by decide)).trans rfl)
set_option maxRecDepth 100000 in
theorem g300_634 {d : Nat} {u : Nat × Nat} {ls st : List z_V} {w : z_W} {Q : z_P} {x y : Int} : z_G d u 300 634 ls (z_i y :: z_i x :: st) w Q ↔ z_G d u 300 635 ls (z_i (z_add x y) :: st) w Q := z_gun ((zF300_8 634 (by decide)).trans rfl)
set_option maxRecDepth 100000 in
theorem g300_635 {d : Nat} {u : Nat × Nat} {ls st : List z_V} {w : z_W} {Q : z_P} {p : Nat} {i : Int} : z_G d u 300 635 ls (z_i i :: z_r p :: st) w Q ↔ ((z_k w p = 100 ∨ z_k w p = 103) ∧ 0 ≤ i ∧ i < z_len w p ∧ (z_rg (z_I w p i) → z_G d u 300 636 ls (z_i (z_I w p i) :: st) w Q)) := z_gun ((zF300_8 635 (by decide)).trans rfl)
set_option maxRecDepth 100000 in
theorem g300_636 {d : Nat} {u : Nat × Nat} {ls st : List z_V} {w : z_W} {Q : z_P} {o : Option Nat} : z_G d u 300 636 (z_vr o :: ls) st w Q ↔ z_G d u 300 637 (z_vr o :: ls) (z_vr o :: st) w Q := z_gun ((zF300_8 636 (by decide)).trans rfl)
set_option maxRecDepth 100000 in
theorem g300_636r {d : Nat} {u : Nat × Nat} {ls st : List z_V} {w : z_W} {Q : z_P} {k : Nat} : z_G d u 300 636 (z_r k :: ls) st w Q ↔ z_G d u 300 637 (z_r k :: ls) (z_r k :: st) w Q := z_gun ((zF300_8 636 (by decide)).trans rfl)
set_option maxRecDepth 100000 in
theorem g300_637 {d : Nat} {u : Nat × Nat} {ls st : List z_V} {w : z_W} {Q : z_P} {z : Int} {a0 a1 a2 a3 : z_V} : z_G d u 300 637 (a0 :: a1 :: a2 :: a3 :: z_i z :: ls) st w Q ↔ z_G d u 300 639 (a0 :: a1 :: a2 :: a3 :: z_i z :: ls) (z_i z :: st) w Q := z_gun ((zF300_8 637 (by decide)).trans rfl)
set_option maxRecDepth 100000 in
theorem g300_639 {d : Nat} {u : Nat × Nat} {ls st : List z_V} {w : z_W} {Q : z_P} : z_G d u 300 639 ls st w Q ↔ z_G d u 300 640 ls (z_i (2) :: st) w Q := z_gun ((zF300_8 639 (by decide)).trans rfl)
set_option maxRecDepth 100000 in
theorem g300_640 {d : Nat} {u : Nat × Nat} {ls st : List z_V} {w : z_W} {Q : z_P} {x y : Int} : z_G d u 300 640 ls (z_i y :: z_i x :: st) w Q ↔ z_G d u 300 641 ls (z_i (z_add x y) :: st) w Q := z_gun ((zF300_8 640 (by decide)).trans rfl)
set_option maxRecDepth 100000 in
theorem g300_641 {d : Nat} {u : Nat × Nat} {ls st : List z_V} {w : z_W} {Q : z_P} {p : Nat} {i : Int} : z_G d u 300 641 ls (z_i i :: z_r p :: st) w Q ↔ ((z_k w p = 100 ∨ z_k w p = 103) ∧ 0 ≤ i ∧ i < z_len w p ∧ (z_rg (z_I w p i) → z_G d u 300 642 ls (z_i (z_I w p i) :: st) w Q)) := z_gun ((zF300_8 641 (by decide)).trans rfl)
set_option maxRecDepth 100000 in
theorem g300_642 {d : Nat} {u : Nat × Nat} {ls st : List z_V} {w : z_W} {Q : z_P} {o : Option Nat} : z_G d u 300 642 (z_vr o :: ls) st w Q ↔ z_G d u 300 643 (z_vr o :: ls) (z_vr o :: st) w Q := z_gun ((zF300_8 642 (by decide)).trans rfl)
set_option maxRecDepth 100000 in
theorem g300_642r {d : Nat} {u : Nat × Nat} {ls st : List z_V} {w : z_W} {Q : z_P} {k : Nat} : z_G d u 300 642 (z_r k :: ls) st w Q ↔ z_G d u 300 643 (z_r k :: ls) (z_r k :: st) w Q := z_gun ((zF300_8 642 (by decide)).trans rfl)
set_option maxRecDepth 100000 in
theorem g300_643 {d : Nat} {u : Nat × Nat} {ls st : List z_V} {w : z_W} {Q : z_P} {z : Int} {a0 a1 a2 a3 : z_V} : z_G d u 300 643 (a0 :: a1 :: a2 :: a3 :: z_i z :: ls) st w Q ↔ z_G d u 300 645 (a0 :: a1 :: a2 :: a3 :: z_i z :: ls) (z_i z :: st) w Q := z_gun ((zF300_8 643 (by decide)).trans rfl)
set_option maxRecDepth 100000 in
theorem g300_645 {d : Nat} {u : Nat × Nat} {ls st : List z_V} {w : z_W} {Q : z_P} : z_G d u 300 645 ls st w Q ↔ z_G d u 300 646 ls (z_i (3) :: st) w Q := z_gun ((zF300_8 645 (by decide)).trans rfl)
set_option maxRecDepth 100000 in
theorem g300_646 {d : Nat} {u : Nat × Nat} {ls st : List z_V} {w : z_W} {Q : z_P} {x y : Int} : z_G d u 300 646 ls (z_i y :: z_i x :: st) w Q ↔ z_G d u 300 647 ls (z_i (z_add x y) :: st) w Q := z_gun ((zF300_8 646 (by decide)).trans rfl)
set_option maxRecDepth 100000 in
theorem g300_647 {d : Nat} {u : Nat × Nat} {ls st : List z_V} {w : z_W} {Q : z_P} {p : Nat} {i : Int} : z_G d u 300 647 ls (z_i i :: z_r p :: st) w Q ↔ ((z_k w p = 100 ∨ z_k w p = 103) ∧ 0 ≤ i ∧ i < z_len w p ∧ (z_rg (z_I w p i) → z_G d u 300 648 ls (z_i (z_I w p i) :: st) w Q)) := z_gun ((zF300_8 647 (by decide)).trans rfl)
set_option maxRecDepth 100000 in
theorem g300_648 {d : Nat} {u : Nat × Nat} {ls st : List z_V} {w : z_W} {Q : z_P} {o : Option Nat} : z_G d u 300 648 (z_vr o :: ls) st w Q ↔ z_G d u 300 649 (z_vr o :: ls) (z_vr o :: st) w Q := z_gun ((zF300_8 648 (by decide)).trans rfl)
set_option maxRecDepth 100000 in
theorem g300_648r {d : Nat} {u : Nat × Nat} {ls st : List z_V} {w : z_W} {Q : z_P} {k : Nat} : z_G d u 300 648 (z_r k :: ls) st w Q ↔ z_G d u 300 649 (z_r k :: ls) (z_r k :: st) w Q := z_gun ((zF300_8 648 (by decide)).trans rfl)
set_option maxRecDepth 100000 in
theorem g300_649 {d : Nat} {u : Nat × Nat} {ls st : List z_V} {w : z_W} {Q : z_P} {z : Int} {a0 a1 a2 a3 : z_V} : z_G d u 300 649 (a0 :: a1 :: a2 :: a3 :: z_i z :: ls) st w Q ↔ z_G d u 300 651 (a0 :: a1 :: a2 :: a3 :: z_i z :: ls) (z_i z :: st) w Q := z_gun ((zF300_8 649 (by decide)).trans rfl)
set_option maxRecDepth 100000 in
theorem g300_651 {d : Nat} {u : Nat × Nat} {ls st : List z_V} {w : z_W} {Q : z_P} : z_G d u 300 651 ls st w Q ↔ z_G d u 300 652 ls (z_i (4) :: st) w Q := z_gun ((zF300_8 651 (by decide)).trans rfl)
set_option maxRecDepth 100000 in
theorem g300_652 {d : Nat} {u : Nat × Nat} {ls st : List z_V} {w : z_W} {Q : z_P} {x y : Int} : z_G d u 300 652 ls (z_i y :: z_i x :: st) w Q ↔ z_G d u 300 653 ls (z_i (z_add x y) :: st) w Q := z_gun ((zF300_8 652 (by decide)).trans rfl)
set_option maxRecDepth 100000 in
theorem g300_653 {d : Nat} {u : Nat × Nat} {ls st : List z_V} {w : z_W} {Q : z_P} {p : Nat} {i : Int} : z_G d u 300 653 ls (z_i i :: z_r p :: st) w Q ↔ ((z_k w p = 100 ∨ z_k w p = 103) ∧ 0 ≤ i ∧ i < z_len w p ∧ (z_rg (z_I w p i) → z_G d u 300 654 ls (z_i (z_I w p i) :: st) w Q)) := z_gun ((zF300_8 653 (by decide)).trans rfl)
set_option maxRecDepth 100000 in
theorem g300_654 {d : Nat} {u : Nat × Nat} {ls st : List z_V} {w : z_W} {Q : z_P} {o : Option Nat} : z_G d u 300 654 (z_vr o :: ls) st w Q ↔ z_G d u 300 655 (z_vr o :: ls) (z_vr o :: st) w Q := z_gun ((zF300_8 654 (by decide)).trans rfl)
set_option maxRecDepth 100000 in
theorem g300_654r {d : Nat} {u : Nat × Nat} {ls st : List z_V} {w : z_W} {Q : z_P} {k : Nat} : z_G d u 300 654 (z_r k :: ls) st w Q ↔ z_G d u 300 655 (z_r k :: ls) (z_r k :: st) w Q := z_gun ((zF300_8 654 (by decide)).trans rfl)
set_option maxRecDepth 100000 in
theorem g300_655 {d : Nat} {u : Nat × Nat} {ls st : List z_V} {w : z_W} {Q : z_P} {z : Int} {a0 a1 a2 a3 : z_V} : z_G d u 300 655 (a0 :: a1 :: a2 :: a3 :: z_i z :: ls) st w Q ↔ z_G d u 300 657 (a0 :: a1 :: a2 :: a3 :: z_i z :: ls) (z_i z :: st) w Q := z_gun ((zF300_8 655 (by decide)).trans rfl)
set_option maxRecDepth 100000 in
theorem g300_657 {d : Nat} {u : Nat × Nat} {ls st : List z_V} {w : z_W} {Q : z_P} : z_G d u 300 657 ls st w Q ↔ z_G d u 300 658 ls (z_i (5) :: st) w Q := z_gun ((zF300_8 657 (by decide)).trans rfl)
set_option maxRecDepth 100000 in
theorem g300_658 {d : Nat} {u : Nat × Nat} {ls st : List z_V} {w : z_W} {Q : z_P} {x y : Int} : z_G d u 300 658 ls (z_i y :: z_i x :: st) w Q ↔ z_G d u 300 659 ls (z_i (z_add x y) :: st) w Q := z_gun ((zF300_8 658 (by decide)).trans rfl)
set_option maxRecDepth 100000 in
theorem g300_659 {d : Nat} {u : Nat × Nat} {ls st : List z_V} {w : z_W} {Q : z_P} {p : Nat} {i : Int} : z_G d u 300 659 ls (z_i i :: z_r p :: st) w Q ↔ ((z_k w p = 100 ∨ z_k w p = 103) ∧ 0 ≤ i ∧ i < z_len w p ∧ (z_rg (z_I w p i) → z_G d u 300 660 ls (z_i (z_I w p i) :: st) w Q)) := z_gun ((zF300_8 659 (by decide)).trans rfl)
set_option maxRecDepth 100000 in
theorem g300_660 {d : Nat} {u : Nat × Nat} {ls st : List z_V} {w : z_W} {Q : z_P} {p : Nat} {x0 x1 x2 x3 x4 : Int} : z_G (d + 1) u 300 660 ls (z_i x4 :: z_i x3 :: z_i x2 :: z_i x1 :: z_i x0 :: z_r p :: st) w Q ↔ (z_k w p = 11 ∧ z_c8 st 8 = true ∧ z_G d (0, 0) 133 0 [z_r p, z_i x0, z_i x1, z_i x2, z_i x3, z_i x4, z_x, z_x] [] w (fun r w' => z_G (d + 1) u 300 663 ls (r.toList ++ st) w' Q)) := z_gcaV (d := d) (m := 300) (pc := 660) (m' := 133) (k := 6) (nL := 8) (nx := 663) (ci := 11) (p := p) (u := u) (ls := ls) (st := st) (w := w) (Q := Q) (vs := [z_r p, z_i x0, z_i x1, z_i x2, z_i x3, z_i x4]) ((zF300_8 660 (by decide)).trans rfl) rfl rfl
set_option maxRecDepth 100000 in
theorem g300_663 {d : Nat} {u : Nat × Nat} {ls st : List z_V} {w : z_W} {Q : z_P} {x : Int} : z_G d u 300 663 ls (z_i x :: st) w Q ↔ z_G d u 300 664 ls st w Q := z_gun ((zF300_9 663 (by decide)).trans rfl)
set_option maxRecDepth 100000 in
theorem g300_663r {d : Nat} {u : Nat × Nat} {ls st : List z_V} {w : z_W} {Q : z_P} {k : Nat} : z_G d u 300 663 ls (z_r k :: st) w Q ↔ z_G d u 300 664 ls st w Q := z_gun ((zF300_9 663 (by decide)).trans rfl)
set_option maxRecDepth 100000 in
theorem g300_664 {d : Nat} {u : Nat × Nat} {ls st : List z_V} {w : z_W} {Q : z_P} {o : Option Nat} {a0 a1 : z_V} : z_G d u 300 664 (a0 :: a1 :: z_vr o :: ls) st w Q ↔ z_G d u 300 665 (a0 :: a1 :: z_vr o :: ls) (z_vr o :: st) w Q := z_gun ((zF300_9 664 (by decide)).trans rfl)
set_option maxRecDepth 100000 in
theorem g300_664r {d : Nat} {u : Nat × Nat} {ls st : List z_V} {w : z_W} {Q : z_P} {k : Nat} {a0 a1 : z_V} : z_G d u 300 664 (a0 :: a1 :: z_r k :: ls) st w Q ↔ z_G d u 300 665 (a0 :: a1 :: z_r k :: ls) (z_r k :: st) w Q := z_gun ((zF300_9 664 (by decide)).trans rfl)
set_option maxRecDepth 100000 in
theorem g300_665 {d : Nat} {u : Nat × Nat} {ls st : List z_V} {w : z_W} {Q : z_P} {o : Option Nat} : z_G d u 300 665 (z_vr o :: ls) st w Q ↔ z_G d u 300 666 (z_vr o :: ls) (z_vr o :: st) w Q := z_gun ((zF300_9 665 (by decide)).trans rfl)
set_option maxRecDepth 100000 in
theorem g300_665r {d : Nat} {u : Nat × Nat} {ls st : List z_V} {w : z_W} {Q : z_P} {k : Nat} : z_G d u 300 665 (z_r k :: ls) st w Q ↔ z_G d u 300 666 (z_r k :: ls) (z_r k :: st) w Q := z_gun ((zF300_9 665 (by decide)).trans rfl)
set_option maxRecDepth 100000 in
theorem g300_666 {d : Nat} {u : Nat × Nat} {ls st : List z_V} {w : z_W} {Q : z_P} {z : Int} {a0 a1 a2 a3 : z_V} : z_G d u 300 666 (a0 :: a1 :: a2 :: a3 :: z_i z :: ls) st w Q ↔ z_G d u 300 668 (a0 :: a1 :: a2 :: a3 :: z_i z :: ls) (z_i z :: st) w Q := z_gun ((zF300_9 666 (by decide)).trans rfl)
set_option maxRecDepth 100000 in
theorem g300_668 {d : Nat} {u : Nat × Nat} {ls st : List z_V} {w : z_W} {Q : z_P} : z_G d u 300 668 ls st w Q ↔ z_G d u 300 669 ls (z_i (1) :: st) w Q := z_gun ((zF300_9 668 (by decide)).trans rfl)
set_option maxRecDepth 100000 in
theorem g300_669 {d : Nat} {u : Nat × Nat} {ls st : List z_V} {w : z_W} {Q : z_P} {x y : Int} : z_G d u 300 669 ls (z_i y :: z_i x :: st) w Q ↔ z_G d u 300 670 ls (z_i (z_add x y) :: st) w Q := z_gun ((zF300_9 669 (by decide)).trans rfl)
set_option maxRecDepth 100000 in
theorem g300_670 {d : Nat} {u : Nat × Nat} {ls st : List z_V} {w : z_W} {Q : z_P} {p : Nat} {i : Int} : z_G d u 300 670 ls (z_i i :: z_r p :: st) w Q ↔ ((z_k w p = 100 ∨ z_k w p = 103) ∧ 0 ≤ i ∧ i < z_len w p ∧ (z_rg (z_I w p i) → z_G d u 300 671 ls (z_i (z_I w p i) :: st) w Q)) := z_gun ((zF300_9 670 (by decide)).trans rfl)
set_option maxRecDepth 100000 in
theorem g300_671 {d : Nat} {u : Nat × Nat} {ls st : List z_V} {w : z_W} {Q : z_P} {o : Option Nat} : z_G d u 300 671 (z_vr o :: ls) st w Q ↔ z_G d u 300 672 (z_vr o :: ls) (z_vr o :: st) w Q := z_gun ((zF300_9 671 (by decide)).trans rfl)
set_option maxRecDepth 100000 in
theorem g300_671r {d : Nat} {u : Nat × Nat} {ls st : List z_V} {w : z_W} {Q : z_P} {k : Nat} : z_G d u 300 671 (z_r k :: ls) st w Q ↔ z_G d u 300 672 (z_r k :: ls) (z_r k :: st) w Q := z_gun ((zF300_9 671 (by decide)).trans rfl)
set_option maxRecDepth 100000 in
theorem g300_672 {d : Nat} {u : Nat × Nat} {ls st : List z_V} {w : z_W} {Q : z_P} {z : Int} {a0 a1 a2 a3 : z_V} : z_G d u 300 672 (a0 :: a1 :: a2 :: a3 :: z_i z :: ls) st w Q ↔ z_G d u 300 674 (a0 :: a1 :: a2 :: a3 :: z_i z :: ls) (z_i z :: st) w Q := z_gun ((zF300_9 672 (by decide)).trans rfl)
set_option maxRecDepth 100000 in
theorem g300_674 {d : Nat} {u : Nat × Nat} {ls st : List z_V} {w : z_W} {Q : z_P} : z_G d u 300 674 ls st w Q ↔ z_G d u 300 675 ls (z_i (2) :: st) w Q := z_gun ((zF300_9 674 (by decide)).trans rfl)
set_option maxRecDepth 100000 in
theorem g300_675 {d : Nat} {u : Nat × Nat} {ls st : List z_V} {w : z_W} {Q : z_P} {x y : Int} : z_G d u 300 675 ls (z_i y :: z_i x :: st) w Q ↔ z_G d u 300 676 ls (z_i (z_add x y) :: st) w Q := z_gun ((zF300_9 675 (by decide)).trans rfl)
set_option maxRecDepth 100000 in
theorem g300_676 {d : Nat} {u : Nat × Nat} {ls st : List z_V} {w : z_W} {Q : z_P} {p : Nat} {i : Int} : z_G d u 300 676 ls (z_i i :: z_r p :: st) w Q ↔ ((z_k w p = 100 ∨ z_k w p = 103) ∧ 0 ≤ i ∧ i < z_len w p ∧ (z_rg (z_I w p i) → z_G d u 300 677 ls (z_i (z_I w p i) :: st) w Q)) := z_gun ((zF300_9 676 (by decide)).trans rfl)
set_option maxRecDepth 100000 in
theorem g300_677 {d : Nat} {u : Nat × Nat} {ls st : List z_V} {w : z_W} {Q : z_P} {o : Option Nat} : z_G d u 300 677 (z_vr o :: ls) st w Q ↔ z_G d u 300 678 (z_vr o :: ls) (z_vr o :: st) w Q := z_gun ((zF300_9 677 (by decide)).trans rfl)
set_option maxRecDepth 100000 in
theorem g300_677r {d : Nat} {u : Nat × Nat} {ls st : List z_V} {w : z_W} {Q : z_P} {k : Nat} : z_G d u 300 677 (z_r k :: ls) st w Q ↔ z_G d u 300 678 (z_r k :: ls) (z_r k :: st) w Q := z_gun ((zF300_9 677 (by decide)).trans rfl)
set_option maxRecDepth 100000 in
theorem g300_678 {d : Nat} {u : Nat × Nat} {ls st : List z_V} {w : z_W} {Q : z_P} {z : Int} {a0 a1 a2 a3 : z_V} : z_G d u 300 678 (a0 :: a1 :: a2 :: a3 :: z_i z :: ls) st w Q ↔ z_G d u 300 680 (a0 :: a1 :: a2 :: a3 :: z_i z :: ls) (z_i z :: st) w Q := z_gun ((zF300_9 678 (by decide)).trans rfl)
set_option maxRecDepth 100000 in
theorem g300_680 {d : Nat} {u : Nat × Nat} {ls st : List z_V} {w : z_W} {Q : z_P} : z_G d u 300 680 ls st w Q ↔ z_G d u 300 681 ls (z_i (3) :: st) w Q := z_gun ((zF300_9 680 (by decide)).trans rfl)
set_option maxRecDepth 100000 in
theorem g300_681 {d : Nat} {u : Nat × Nat} {ls st : List z_V} {w : z_W} {Q : z_P} {x y : Int} : z_G d u 300 681 ls (z_i y :: z_i x :: st) w Q ↔ z_G d u 300 682 ls (z_i (z_add x y) :: st) w Q := z_gun ((zF300_9 681 (by decide)).trans rfl)
set_option maxRecDepth 100000 in
theorem g300_682 {d : Nat} {u : Nat × Nat} {ls st : List z_V} {w : z_W} {Q : z_P} {p : Nat} {i : Int} : z_G d u 300 682 ls (z_i i :: z_r p :: st) w Q ↔ ((z_k w p = 100 ∨ z_k w p = 103) ∧ 0 ≤ i ∧ i < z_len w p ∧ (z_rg (z_I w p i) → z_G d u 300 683 ls (z_i (z_I w p i) :: st) w Q)) := z_gun ((zF300_9 682 (by decide)).trans rfl)
set_option maxRecDepth 100000 in
theorem g300_683 {d : Nat} {u : Nat × Nat} {ls st : List z_V} {w : z_W} {Q : z_P} {o : Option Nat} : z_G d u 300 683 (z_vr o :: ls) st w Q ↔ z_G d u 300 684 (z_vr o :: ls) (z_vr o :: st) w Q := z_gun ((zF300_9 683 (by decide)).trans rfl)
set_option maxRecDepth 100000 in
theorem g300_683r {d : Nat} {u : Nat × Nat} {ls st : List z_V} {w : z_W} {Q : z_P} {k : Nat} : z_G d u 300 683 (z_r k :: ls) st w Q ↔ z_G d u 300 684 (z_r k :: ls) (z_r k :: st) w Q := z_gun ((zF300_9 683 (by decide)).trans rfl)
set_option maxRecDepth 100000 in
theorem g300_684 {d : Nat} {u : Nat × Nat} {ls st : List z_V} {w : z_W} {Q : z_P} {z : Int} {a0 a1 a2 a3 : z_V} : z_G d u 300 684 (a0 :: a1 :: a2 :: a3 :: z_i z :: ls) st w Q ↔ z_G d u 300 686 (a0 :: a1 :: a2 :: a3 :: z_i z :: ls) (z_i z :: st) w Q := z_gun ((zF300_9 684 (by decide)).trans rfl)
set_option maxRecDepth 100000 in
theorem g300_686 {d : Nat} {u : Nat × Nat} {ls st : List z_V} {w : z_W} {Q : z_P} : z_G d u 300 686 ls st w Q ↔ z_G d u 300 687 ls (z_i (4) :: st) w Q := z_gun ((zF300_9 686 (by decide)).trans rfl)
set_option maxRecDepth 100000 in
theorem g300_687 {d : Nat} {u : Nat × Nat} {ls st : List z_V} {w : z_W} {Q : z_P} {x y : Int} : z_G d u 300 687 ls (z_i y :: z_i x :: st) w Q ↔ z_G d u 300 688 ls (z_i (z_add x y) :: st) w Q := z_gun ((zF300_9 687 (by decide)).trans rfl)
set_option maxRecDepth 100000 in
theorem g300_688 {d : Nat} {u : Nat × Nat} {ls st : List z_V} {w : z_W} {Q : z_P} {p : Nat} {i : Int} : z_G d u 300 688 ls (z_i i :: z_r p :: st) w Q ↔ ((z_k w p = 100 ∨ z_k w p = 103) ∧ 0 ≤ i ∧ i < z_len w p ∧ (z_rg (z_I w p i) → z_G d u 300 689 ls (z_i (z_I w p i) :: st) w Q)) := z_gun ((zF300_9 688 (by decide)).trans rfl)
set_option maxRecDepth 100000 in
theorem g300_689 {d : Nat} {u : Nat × Nat} {ls st : List z_V} {w : z_W} {Q : z_P} {o : Option Nat} : z_G d u 300 689 (z_vr o :: ls) st w Q ↔ z_G d u 300 690 (z_vr o :: ls) (z_vr o :: st) w Q := z_gun ((zF300_9 689 (by decide)).trans rfl)
set_option maxRecDepth 100000 in
theorem g300_689r {d : Nat} {u : Nat × Nat} {ls st : List z_V} {w : z_W} {Q : z_P} {k : Nat} : z_G d u 300 689 (z_r k :: ls) st w Q ↔ z_G d u 300 690 (z_r k :: ls) (z_r k :: st) w Q := z_gun ((zF300_9 689 (by decide)).trans rfl)
set_option maxRecDepth 100000 in
theorem g300_690 {d : Nat} {u : Nat × Nat} {ls st : List z_V} {w : z_W} {Q : z_P} {z : Int} {a0 a1 a2 a3 : z_V} : z_G d u 300 690 (a0 :: a1 :: a2 :: a3 :: z_i z :: ls) st w Q ↔ z_G d u 300 692 (a0 :: a1 :: a2 :: a3 :: z_i z :: ls) (z_i z :: st) w Q := z_gun ((zF300_9 690 (by decide)).trans rfl)
set_option maxRecDepth 100000 in
theorem g300_692 {d : Nat} {u : Nat × Nat} {ls st : List z_V} {w : z_W} {Q : z_P} : z_G d u 300 692 ls st w Q ↔ z_G d u 300 693 ls (z_i (5) :: st) w Q := z_gun ((zF300_9 692 (by decide)).trans rfl)
set_option maxRecDepth 100000 in
theorem g300_693 {d : Nat} {u : Nat × Nat} {ls st : List z_V} {w : z_W} {Q : z_P} {x y : Int} : z_G d u 300 693 ls (z_i y :: z_i x :: st) w Q ↔ z_G d u 300 694 ls (z_i (z_add x y) :: st) w Q := z_gun ((zF300_9 693 (by decide)).trans rfl)
set_option maxRecDepth 100000 in
theorem g300_694 {d : Nat} {u : Nat × Nat} {ls st : List z_V} {w : z_W} {Q : z_P} {p : Nat} {i : Int} : z_G d u 300 694 ls (z_i i :: z_r p :: st) w Q ↔ ((z_k w p = 100 ∨ z_k w p = 103) ∧ 0 ≤ i ∧ i < z_len w p ∧ (z_rg (z_I w p i) → z_G d u 300 695 ls (z_i (z_I w p i) :: st) w Q)) := z_gun ((zF300_9 694 (by decide)).trans rfl)
set_option maxRecDepth 100000 in
theorem g300_695 {d : Nat} {u : Nat × Nat} {ls st : List z_V} {w : z_W} {Q : z_P} {p : Nat} {x0 x1 x2 x3 x4 : Int} : z_G (d + 1) u 300 695 ls (z_i x4 :: z_i x3 :: z_i x2 :: z_i x1 :: z_i x0 :: z_r p :: st) w Q ↔ (z_k w p = 12 ∧ z_c8 st 8 = true ∧ z_G d (0, 0) 259 0 [z_r p, z_i x0, z_i x1, z_i x2, z_i x3, z_i x4, z_x, z_x] [] w (fun r w' => z_G (d + 1) u 300 698 ls (r.toList ++ st) w' Q)) := z_gcaV (d := d) (m := 300) (pc := 695) (m' := 259) (k := 6) (nL := 8) (nx := 698) (ci := 12) (p := p) (u := u) (ls := ls) (st := st) (w := w) (Q := Q) (vs := [z_r p, z_i x0, z_i x1, z_i x2, z_i x3, z_i x4]) ((zF300_9 695 (by decide)).trans rfl) rfl rfl
set_option maxRecDepth 100000 in
theorem g300_698 {d : Nat} {u : Nat × Nat} {ls st : List z_V} {w : z_W} {Q : z_P} {x : Int} : z_G d u 300 698 ls (z_i x :: st) w Q ↔ z_G d u 300 699 ls st w Q := z_gun ((zF300_9 698 (by decide)).trans rfl)
set_option maxRecDepth 100000 in
theorem g300_698r {d : Nat} {u : Nat × Nat} {ls st : List z_V} {w : z_W} {Q : z_P} {k : Nat} : z_G d u 300 698 ls (z_r k :: st) w Q ↔ z_G d u 300 699 ls st w Q := z_gun ((zF300_9 698 (by decide)).trans rfl)
set_option maxRecDepth 100000 in
theorem g300_699 {d : Nat} {u : Nat × Nat} {ls st : List z_V} {w : z_W} {Q : z_P} : z_G d u 300 699 ls st w Q ↔ z_G d u 300 1614 ls st w Q := z_gun ((zF300_9 699 (by decide)).trans rfl)
set_option maxRecDepth 100000 in
theorem g300_702 {d : Nat} {u : Nat × Nat} {ls st : List z_V} {w : z_W} {Q : z_P} {o : Option Nat} {a0 : z_V} : z_G d u 300 702 (a0 :: z_vr o :: ls) st w Q ↔ z_G d u 300 703 (a0 :: z_vr o :: ls) (z_vr o :: st) w Q := z_gun ((zF300_9 702 (by decide)).trans rfl)
set_option maxRecDepth 100000 in
theorem g300_702r {d : Nat} {u : Nat × Nat} {ls st : List z_V} {w : z_W} {Q : z_P} {k : Nat} {a0 : z_V} : z_G d u 300 702 (a0 :: z_r k :: ls) st w Q ↔ z_G d u 300 703 (a0 :: z_r k :: ls) (z_r k :: st) w Q := z_gun ((zF300_9 702 (by decide)).trans rfl)
set_option maxRecDepth 100000 in
theorem g300_703 {d : Nat} {u : Nat × Nat} {ls st : List z_V} {w : z_W} {Q : z_P} {o : Option Nat} : z_G d u 300 703 (z_vr o :: ls) st w Q ↔ z_G d u 300 704 (z_vr o :: ls) (z_vr o :: st) w Q := z_gun ((zF300_9 703 (by decide)).trans rfl)
set_option maxRecDepth 100000 in
theorem g300_703r {d : Nat} {u : Nat × Nat} {ls st : List z_V} {w : z_W} {Q : z_P} {k : Nat} : z_G d u 300 703 (z_r k :: ls) st w Q ↔ z_G d u 300 704 (z_r k :: ls) (z_r k :: st) w Q := z_gun ((zF300_9 703 (by decide)).trans rfl)
set_option maxRecDepth 100000 in
theorem g300_704 {d : Nat} {u : Nat × Nat} {ls st : List z_V} {w : z_W} {Q : z_P} {z : Int} {a0 a1 a2 a3 : z_V} : z_G d u 300 704 (a0 :: a1 :: a2 :: a3 :: z_i z :: ls) st w Q ↔ z_G d u 300 706 (a0 :: a1 :: a2 :: a3 :: z_i z :: ls) (z_i z :: st) w Q := z_gun ((zF300_9 704 (by decide)).trans rfl)
set_option maxRecDepth 100000 in
theorem g300_706 {d : Nat} {u : Nat × Nat} {ls st : List z_V} {w : z_W} {Q : z_P} : z_G d u 300 706 ls st w Q ↔ z_G d u 300 707 ls (z_i (1) :: st) w Q := z_gun ((zF300_9 706 (by decide)).trans rfl)
set_option maxRecDepth 100000 in
theorem g300_707 {d : Nat} {u : Nat × Nat} {ls st : List z_V} {w : z_W} {Q : z_P} {x y : Int} : z_G d u 300 707 ls (z_i y :: z_i x :: st) w Q ↔ z_G d u 300 708 ls (z_i (z_add x y) :: st) w Q := z_gun ((zF300_9 707 (by decide)).trans rfl)
set_option maxRecDepth 100000 in
theorem g300_708 {d : Nat} {u : Nat × Nat} {ls st : List z_V} {w : z_W} {Q : z_P} {p : Nat} {i : Int} : z_G d u 300 708 ls (z_i i :: z_r p :: st) w Q ↔ ((z_k w p = 100 ∨ z_k w p = 103) ∧ 0 ≤ i ∧ i < z_len w p ∧ (z_rg (z_I w p i) → z_G d u 300 709 ls (z_i (z_I w p i) :: st) w Q)) := z_gun ((zF300_9 708 (by decide)).trans rfl)
set_option maxRecDepth 100000 in
theorem g300_709 {d : Nat} {u : Nat × Nat} {ls st : List z_V} {w : z_W} {Q : z_P} {o : Option Nat} : z_G d u 300 709 (z_vr o :: ls) st w Q ↔ z_G d u 300 710 (z_vr o :: ls) (z_vr o :: st) w Q := z_gun ((zF300_9 709 (by decide)).trans rfl)
set_option maxRecDepth 100000 in
theorem g300_709r {d : Nat} {u : Nat × Nat} {ls st : List z_V} {w : z_W} {Q : z_P} {k : Nat} : z_G d u 300 709 (z_r k :: ls) st w Q ↔ z_G d u 300 710 (z_r k :: ls) (z_r k :: st) w Q := z_gun ((zF300_9 709 (by decide)).trans rfl)
set_option maxRecDepth 100000 in
theorem g300_710 {d : Nat} {u : Nat × Nat} {ls st : List z_V} {w : z_W} {Q : z_P} {z : Int} {a0 a1 a2 a3 : z_V} : z_G d u 300 710 (a0 :: a1 :: a2 :: a3 :: z_i z :: ls) st w Q ↔ z_G d u 300 712 (a0 :: a1 :: a2 :: a3 :: z_i z :: ls) (z_i z :: st) w Q := z_gun ((zF300_9 710 (by decide)).trans rfl)
set_option maxRecDepth 100000 in
theorem g300_712 {d : Nat} {u : Nat × Nat} {ls st : List z_V} {w : z_W} {Q : z_P} : z_G d u 300 712 ls st w Q ↔ z_G d u 300 713 ls (z_i (2) :: st) w Q := z_gun ((zF300_9 712 (by decide)).trans rfl)
set_option maxRecDepth 100000 in
theorem g300_713 {d : Nat} {u : Nat × Nat} {ls st : List z_V} {w : z_W} {Q : z_P} {x y : Int} : z_G d u 300 713 ls (z_i y :: z_i x :: st) w Q ↔ z_G d u 300 714 ls (z_i (z_add x y) :: st) w Q := z_gun ((zF300_9 713 (by decide)).trans rfl)
set_option maxRecDepth 100000 in
theorem g300_714 {d : Nat} {u : Nat × Nat} {ls st : List z_V} {w : z_W} {Q : z_P} {p : Nat} {i : Int} : z_G d u 300 714 ls (z_i i :: z_r p :: st) w Q ↔ ((z_k w p = 100 ∨ z_k w p = 103) ∧ 0 ≤ i ∧ i < z_len w p ∧ (z_rg (z_I w p i) → z_G d u 300 715 ls (z_i (z_I w p i) :: st) w Q)) := z_gun ((zF300_10 714 (by decide)).trans rfl)
set_option maxRecDepth 100000 in
theorem g300_715 {d : Nat} {u : Nat × Nat} {ls st : List z_V} {w : z_W} {Q : z_P} {p : Nat} {x0 x1 : Int} : z_G (d + 1) u 300 715 ls (z_i x1 :: z_i x0 :: z_r p :: st) w Q ↔ (z_k w p = 11 ∧ z_c8 st 8 = true ∧ z_G d (0, 0) 134 0 [z_r p, z_i x0, z_i x1, z_x] [] w (fun r w' => z_G (d + 1) u 300 718 ls (r.toList ++ st) w' Q)) := z_gcaV (d := d) (m := 300) (pc := 715) (m' := 134) (k := 3) (nL := 4) (nx := 718) (ci := 11) (p := p) (u := u) (ls := ls) (st := st) (w := w) (Q := Q) (vs := [z_r p, z_i x0, z_i x1]) ((zF300_10 715 (by decide)).trans rfl) rfl rfl
set_option maxRecDepth 100000 in
theorem g300_718 {d : Nat} {u : Nat × Nat} {ls st : List z_V} {w : z_W} {Q : z_P} {x : Int} : z_G d u 300 718 ls (z_i x :: st) w Q ↔ z_G d u 300 719 ls st w Q := z_gun ((zF300_10 718 (by decide)).trans rfl)
set_option maxRecDepth 100000 in
theorem g300_718r {d : Nat} {u : Nat × Nat} {ls st : List z_V} {w : z_W} {Q : z_P} {k : Nat} : z_G d u 300 718 ls (z_r k :: st) w Q ↔ z_G d u 300 719 ls st w Q := z_gun ((zF300_10 718 (by decide)).trans rfl)
set_option maxRecDepth 100000 in
theorem g300_719 {d : Nat} {u : Nat × Nat} {ls st : List z_V} {w : z_W} {Q : z_P} {o : Option Nat} {a0 a1 : z_V} : z_G d u 300 719 (a0 :: a1 :: z_vr o :: ls) st w Q ↔ z_G d u 300 720 (a0 :: a1 :: z_vr o :: ls) (z_vr o :: st) w Q := z_gun ((zF300_10 719 (by decide)).trans rfl)
set_option maxRecDepth 100000 in
theorem g300_719r {d : Nat} {u : Nat × Nat} {ls st : List z_V} {w : z_W} {Q : z_P} {k : Nat} {a0 a1 : z_V} : z_G d u 300 719 (a0 :: a1 :: z_r k :: ls) st w Q ↔ z_G d u 300 720 (a0 :: a1 :: z_r k :: ls) (z_r k :: st) w Q := z_gun ((zF300_10 719 (by decide)).trans rfl)
set_option maxRecDepth 100000 in
theorem g300_720 {d : Nat} {u : Nat × Nat} {ls st : List z_V} {w : z_W} {Q : z_P} {o : Option Nat} : z_G d u 300 720 (z_vr o :: ls) st w Q ↔ z_G d u 300 721 (z_vr o :: ls) (z_vr o :: st) w Q := z_gun ((zF300_10 720 (by decide)).trans rfl)
set_option maxRecDepth 100000 in
theorem g300_720r {d : Nat} {u : Nat × Nat} {ls st : List z_V} {w : z_W} {Q : z_P} {k : Nat} : z_G d u 300 720 (z_r k :: ls) st w Q ↔ z_G d u 300 721 (z_r k :: ls) (z_r k :: st) w Q := z_gun ((zF300_10 720 (by decide)).trans rfl)
set_option maxRecDepth 100000 in
theorem g300_721 {d : Nat} {u : Nat × Nat} {ls st : List z_V} {w : z_W} {Q : z_P} {z : Int} {a0 a1 a2 a3 : z_V} : z_G d u 300 721 (a0 :: a1 :: a2 :: a3 :: z_i z :: ls) st w Q ↔ z_G d u 300 723 (a0 :: a1 :: a2 :: a3 :: z_i z :: ls) (z_i z :: st) w Q := z_gun ((zF300_10 721 (by decide)).trans rfl)
set_option maxRecDepth 100000 in
theorem g300_723 {d : Nat} {u : Nat × Nat} {ls st : List z_V} {w : z_W} {Q : z_P} : z_G d u 300 723 ls st w Q ↔ z_G d u 300 724 ls (z_i (1) :: st) w Q := z_gun ((zF300_10 723 (by decide)).trans rfl)
set_option maxRecDepth 100000 in
theorem g300_724 {d : Nat} {u : Nat × Nat} {ls st : List z_V} {w : z_W} {Q : z_P} {x y : Int} : z_G d u 300 724 ls (z_i y :: z_i x :: st) w Q ↔ z_G d u 300 725 ls (z_i (z_add x y) :: st) w Q := z_gun ((zF300_10 724 (by decide)).trans rfl)
set_option maxRecDepth 100000 in
theorem g300_725 {d : Nat} {u : Nat × Nat} {ls st : List z_V} {w : z_W} {Q : z_P} {p : Nat} {i : Int} : z_G d u 300 725 ls (z_i i :: z_r p :: st) w Q ↔ ((z_k w p = 100 ∨ z_k w p = 103) ∧ 0 ≤ i ∧ i < z_len w p ∧ (z_rg (z_I w p i) → z_G d u 300 726 ls (z_i (z_I w p i) :: st) w Q)) := z_gun ((zF300_10 725 (by decide)).trans rfl)
set_option maxRecDepth 100000 in
theorem g300_726 {d : Nat} {u : Nat × Nat} {ls st : List z_V} {w : z_W} {Q : z_P} {o : Option Nat} : z_G d u 300 726 (z_vr o :: ls) st w Q ↔ z_G d u 300 727 (z_vr o :: ls) (z_vr o :: st) w Q := z_gun ((zF300_10 726 (by decide)).trans rfl)
set_option maxRecDepth 100000 in
theorem g300_726r {d : Nat} {u : Nat × Nat} {ls st : List z_V} {w : z_W} {Q : z_P} {k : Nat} : z_G d u 300 726 (z_r k :: ls) st w Q ↔ z_G d u 300 727 (z_r k :: ls) (z_r k :: st) w Q := z_gun ((zF300_10 726 (by decide)).trans rfl)
set_option maxRecDepth 100000 in
theorem g300_727 {d : Nat} {u : Nat × Nat} {ls st : List z_V} {w : z_W} {Q : z_P} {z : Int} {a0 a1 a2 a3 : z_V} : z_G d u 300 727 (a0 :: a1 :: a2 :: a3 :: z_i z :: ls) st w Q ↔ z_G d u 300 729 (a0 :: a1 :: a2 :: a3 :: z_i z :: ls) (z_i z :: st) w Q := z_gun ((zF300_10 727 (by decide)).trans rfl)
set_option maxRecDepth 100000 in
theorem g300_729 {d : Nat} {u : Nat × Nat} {ls st : List z_V} {w : z_W} {Q : z_P} : z_G d u 300 729 ls st w Q ↔ z_G d u 300 730 ls (z_i (2) :: st) w Q := z_gun ((zF300_10 729 (by decide)).trans rfl)
set_option maxRecDepth 100000 in
theorem g300_730 {d : Nat} {u : Nat × Nat} {ls st : List z_V} {w : z_W} {Q : z_P} {x y : Int} : z_G d u 300 730 ls (z_i y :: z_i x :: st) w Q ↔ z_G d u 300 731 ls (z_i (z_add x y) :: st) w Q := z_gun ((zF300_10 730 (by decide)).trans rfl)
set_option maxRecDepth 100000 in
theorem g300_731 {d : Nat} {u : Nat × Nat} {ls st : List z_V} {w : z_W} {Q : z_P} {p : Nat} {i : Int} : z_G d u 300 731 ls (z_i i :: z_r p :: st) w Q ↔ ((z_k w p = 100 ∨ z_k w p = 103) ∧ 0 ≤ i ∧ i < z_len w p ∧ (z_rg (z_I w p i) → z_G d u 300 732 ls (z_i (z_I w p i) :: st) w Q)) := z_gun ((zF300_10 731 (by decide)).trans rfl)
set_option maxRecDepth 100000 in
theorem g300_732 {d : Nat} {u : Nat × Nat} {ls st : List z_V} {w : z_W} {Q : z_P} {p : Nat} {x0 x1 : Int} : z_G (d + 1) u 300 732 ls (z_i x1 :: z_i x0 :: z_r p :: st) w Q ↔ (z_k w p = 12 ∧ z_c8 st 8 = true ∧ z_G d (0, 0) 260 0 [z_r p, z_i x0, z_i x1] [] w (fun r w' => z_G (d + 1) u 300 735 ls (r.toList ++ st) w' Q)) := z_gcaV (d := d) (m := 300) (pc := 732) (m' := 260) (k := 3) (nL := 3) (nx := 735) (ci := 12) (p := p) (u := u) (ls := ls) (st := st) (w := w) (Q := Q) (vs := [z_r p, z_i x0, z_i x1]) ((zF300_10 732 (by decide)).trans rfl) rfl rfl
set_option maxRecDepth 100000 in
theorem g300_735 {d : Nat} {u : Nat × Nat} {ls st : List z_V} {w : z_W} {Q : z_P} {x : Int} : z_G d u 300 735 ls (z_i x :: st) w Q ↔ z_G d u 300 736 ls st w Q := z_gun ((zF300_10 735 (by decide)).trans rfl)
set_option maxRecDepth 100000 in
theorem g300_735r {d : Nat} {u : Nat × Nat} {ls st : List z_V} {w : z_W} {Q : z_P} {k : Nat} : z_G d u 300 735 ls (z_r k :: st) w Q ↔ z_G d u 300 736 ls st w Q := z_gun ((zF300_10 735 (by decide)).trans rfl)
set_option maxRecDepth 100000 in
theorem g300_736 {d : Nat} {u : Nat × Nat} {ls st : List z_V} {w : z_W} {Q : z_P} : z_G d u 300 736 ls st w Q ↔ z_G d u 300 1614 ls st w Q := z_gun ((zF300_10 736 (by decide)).trans rfl)
set_option maxRecDepth 100000 in
theorem g300_739 {d : Nat} {u : Nat × Nat} {ls st : List z_V} {w : z_W} {Q : z_P} {o : Option Nat} {a0 : z_V} : z_G d u 300 739 (a0 :: z_vr o :: ls) st w Q ↔ z_G d u 300 740 (a0 :: z_vr o :: ls) (z_vr o :: st) w Q := z_gun ((zF300_10 739 (by decide)).trans rfl)
set_option maxRecDepth 100000 in
theorem g300_739r {d : Nat} {u : Nat × Nat} {ls st : List z_V} {w : z_W} {Q : z_P} {k : Nat} {a0 : z_V} : z_G d u 300 739 (a0 :: z_r k :: ls) st w Q ↔ z_G d u 300 740 (a0 :: z_r k :: ls) (z_r k :: st) w Q := z_gun ((zF300_10 739 (by decide)).trans rfl)
set_option maxRecDepth 100000 in
theorem g300_740 {d : Nat} {u : Nat × Nat} {ls st : List z_V} {w : z_W} {Q : z_P} {o : Option Nat} : z_G d u 300 740 (z_vr o :: ls) st w Q ↔ z_G d u 300 741 (z_vr o :: ls) (z_vr o :: st) w Q := z_gun ((zF300_10 740 (by decide)).trans rfl)
set_option maxRecDepth 100000 in
theorem g300_740r {d : Nat} {u : Nat × Nat} {ls st : List z_V} {w : z_W} {Q : z_P} {k : Nat} : z_G d u 300 740 (z_r k :: ls) st w Q ↔ z_G d u 300 741 (z_r k :: ls) (z_r k :: st) w Q := z_gun ((zF300_10 740 (by decide)).trans rfl)
set_option maxRecDepth 100000 in
theorem g300_741 {d : Nat} {u : Nat × Nat} {ls st : List z_V} {w : z_W} {Q : z_P} {z : Int} {a0 a1 a2 a3 : z_V} : z_G d u 300 741 (a0 :: a1 :: a2 :: a3 :: z_i z :: ls) st w Q ↔ z_G d u 300 743 (a0 :: a1 :: a2 :: a3 :: z_i z :: ls) (z_i z :: st) w Q := z_gun ((zF300_10 741 (by decide)).trans rfl)
set_option maxRecDepth 100000 in
theorem g300_743 {d : Nat} {u : Nat × Nat} {ls st : List z_V} {w : z_W} {Q : z_P} : z_G d u 300 743 ls st w Q ↔ z_G d u 300 744 ls (z_i (1) :: st) w Q := z_gun ((zF300_10 743 (by decide)).trans rfl)
set_option maxRecDepth 100000 in
theorem g300_744 {d : Nat} {u : Nat × Nat} {ls st : List z_V} {w : z_W} {Q : z_P} {x y : Int} : z_G d u 300 744 ls (z_i y :: z_i x :: st) w Q ↔ z_G d u 300 745 ls (z_i (z_add x y) :: st) w Q := z_gun ((zF300_10 744 (by decide)).trans rfl)
set_option maxRecDepth 100000 in
theorem g300_745 {d : Nat} {u : Nat × Nat} {ls st : List z_V} {w : z_W} {Q : z_P} {p : Nat} {i : Int} : z_G d u 300 745 ls (z_i i :: z_r p :: st) w Q ↔ ((z_k w p = 100 ∨ z_k w p = 103) ∧ 0 ≤ i ∧ i < z_len w p ∧ (z_rg (z_I w p i) → z_G d u 300 746 ls (z_i (z_I w p i) :: st) w Q)) := z_gun ((zF300_10 745 (by decide)).trans rfl)
set_option maxRecDepth 100000 in
theorem g300_746 {d : Nat} {u : Nat × Nat} {ls st : List z_V} {w : z_W} {Q : z_P} {p : Nat} {x0 : Int} : z_G (d + 1) u 300 746 ls (z_i x0 :: z_r p :: st) w Q ↔ (z_k w p = 11 ∧ z_c8 st 8 = true ∧ z_G d (0, 0) 135 0 [z_r p, z_i x0] [] w (fun r w' => z_G (d + 1) u 300 749 ls (r.toList ++ st) w' Q)) := z_gcaV (d := d) (m := 300) (pc := 746) (m' := 135) (k := 2) (nL := 2) (nx := 749) (ci := 11) (p := p) (u := u) (ls := ls) (st := st) (w := w) (Q := Q) (vs := [z_r p, z_i x0]) ((zF300_10 746 (by decide)).trans rfl) rfl rfl
set_option maxRecDepth 100000 in
theorem g300_749 {d : Nat} {u : Nat × Nat} {ls st : List z_V} {w : z_W} {Q : z_P} {x : Int} : z_G d u 300 749 ls (z_i x :: st) w Q ↔ z_G d u 300 750 ls st w Q := z_gun ((zF300_10 749 (by decide)).trans rfl)
set_option maxRecDepth 100000 in
theorem g300_749r {d : Nat} {u : Nat × Nat} {ls st : List z_V} {w : z_W} {Q : z_P} {k : Nat} : z_G d u 300 749 ls (z_r k :: st) w Q ↔ z_G d u 300 750 ls st w Q := z_gun ((zF300_10 749 (by decide)).trans rfl)
set_option maxRecDepth 100000 in
theorem g300_750 {d : Nat} {u : Nat × Nat} {ls st : List z_V} {w : z_W} {Q : z_P} {o : Option Nat} {a0 a1 : z_V} : z_G d u 300 750 (a0 :: a1 :: z_vr o :: ls) st w Q ↔ z_G d u 300 751 (a0 :: a1 :: z_vr o :: ls) (z_vr o :: st) w Q := z_gun ((zF300_10 750 (by decide)).trans rfl)
set_option maxRecDepth 100000 in
theorem g300_750r {d : Nat} {u : Nat × Nat} {ls st : List z_V} {w : z_W} {Q : z_P} {k : Nat} {a0 a1 : z_V} : z_G d u 300 750 (a0 :: a1 :: z_r k :: ls) st w Q ↔ z_G d u 300 751 (a0 :: a1 :: z_r k :: ls) (z_r k :: st) w Q := z_gun ((zF300_10 750 (by decide)).trans rfl)
set_option maxRecDepth 100000 in
theorem g300_751 {d : Nat} {u : Nat × Nat} {ls st : List z_V} {w : z_W} {Q : z_P} {o : Option Nat} : z_G d u 300 751 (z_vr o :: ls) st w Q ↔ z_G d u 300 752 (z_vr o :: ls) (z_vr o :: st) w Q := z_gun ((zF300_10 751 (by decide)).trans rfl)
set_option maxRecDepth 100000 in
theorem g300_751r {d : Nat} {u : Nat × Nat} {ls st : List z_V} {w : z_W} {Q : z_P} {k : Nat} : z_G d u 300 751 (z_r k :: ls) st w Q ↔ z_G d u 300 752 (z_r k :: ls) (z_r k :: st) w Q := z_gun ((zF300_10 751 (by decide)).trans rfl)
set_option maxRecDepth 100000 in
theorem g300_752 {d : Nat} {u : Nat × Nat} {ls st : List z_V} {w : z_W} {Q : z_P} {z : Int} {a0 a1 a2 a3 : z_V} : z_G d u 300 752 (a0 :: a1 :: a2 :: a3 :: z_i z :: ls) st w Q ↔ z_G d u 300 754 (a0 :: a1 :: a2 :: a3 :: z_i z :: ls) (z_i z :: st) w Q := z_gun ((zF300_10 752 (by decide)).trans rfl)
set_option maxRecDepth 100000 in
theorem g300_754 {d : Nat} {u : Nat × Nat} {ls st : List z_V} {w : z_W} {Q : z_P} : z_G d u 300 754 ls st w Q ↔ z_G d u 300 755 ls (z_i (1) :: st) w Q := z_gun ((zF300_10 754 (by decide)).trans rfl)
set_option maxRecDepth 100000 in
theorem g300_755 {d : Nat} {u : Nat × Nat} {ls st : List z_V} {w : z_W} {Q : z_P} {x y : Int} : z_G d u 300 755 ls (z_i y :: z_i x :: st) w Q ↔ z_G d u 300 756 ls (z_i (z_add x y) :: st) w Q := z_gun ((zF300_10 755 (by decide)).trans rfl)
set_option maxRecDepth 100000 in
theorem g300_756 {d : Nat} {u : Nat × Nat} {ls st : List z_V} {w : z_W} {Q : z_P} {p : Nat} {i : Int} : z_G d u 300 756 ls (z_i i :: z_r p :: st) w Q ↔ ((z_k w p = 100 ∨ z_k w p = 103) ∧ 0 ≤ i ∧ i < z_len w p ∧ (z_rg (z_I w p i) → z_G d u 300 757 ls (z_i (z_I w p i) :: st) w Q)) := z_gun ((zF300_10 756 (by decide)).trans rfl)
set_option maxRecDepth 100000 in
theorem g300_757 {d : Nat} {u : Nat × Nat} {ls st : List z_V} {w : z_W} {Q : z_P} {p : Nat} {x0 : Int} : z_G (d + 1) u 300 757 ls (z_i x0 :: z_r p :: st) w Q ↔ (z_k w p = 12 ∧ z_c8 st 8 = true ∧ z_G d (0, 0) 261 0 [z_r p, z_i x0] [] w (fun r w' => z_G (d + 1) u 300 760 ls (r.toList ++ st) w' Q)) := z_gcaV (d := d) (m := 300) (pc := 757) (m' := 261) (k := 2) (nL := 2) (nx := 760) (ci := 12) (p := p) (u := u) (ls := ls) (st := st) (w := w) (Q := Q) (vs := [z_r p, z_i x0]) ((zF300_10 757 (by decide)).trans rfl) rfl rfl
set_option maxRecDepth 100000 in
theorem g300_760 {d : Nat} {u : Nat × Nat} {ls st : List z_V} {w : z_W} {Q : z_P} {x : Int} : z_G d u 300 760 ls (z_i x :: st) w Q ↔ z_G d u 300 761 ls st w Q := z_gun ((zF300_10 760 (by decide)).trans rfl)
set_option maxRecDepth 100000 in
theorem g300_760r {d : Nat} {u : Nat × Nat} {ls st : List z_V} {w : z_W} {Q : z_P} {k : Nat} : z_G d u 300 760 ls (z_r k :: st) w Q ↔ z_G d u 300 761 ls st w Q := z_gun ((zF300_10 760 (by decide)).trans rfl)
set_option maxRecDepth 100000 in
theorem g300_761 {d : Nat} {u : Nat × Nat} {ls st : List z_V} {w : z_W} {Q : z_P} : z_G d u 300 761 ls st w Q ↔ z_G d u 300 1614 ls st w Q := z_gun ((zF300_10 761 (by decide)).trans rfl)
set_option maxRecDepth 100000 in
theorem g300_764 {d : Nat} {u : Nat × Nat} {ls st : List z_V} {w : z_W} {Q : z_P} {o : Option Nat} {a0 : z_V} : z_G d u 300 764 (a0 :: z_vr o :: ls) st w Q ↔ z_G d u 300 765 (a0 :: z_vr o :: ls) (z_vr o :: st) w Q := z_gun ((zF300_10 764 (by decide)).trans rfl)
set_option maxRecDepth 100000 in
theorem g300_764r {d : Nat} {u : Nat × Nat} {ls st : List z_V} {w : z_W} {Q : z_P} {k : Nat} {a0 : z_V} : z_G d u 300 764 (a0 :: z_r k :: ls) st w Q ↔ z_G d u 300 765 (a0 :: z_r k :: ls) (z_r k :: st) w Q := z_gun ((zF300_10 764 (by decide)).trans rfl)
set_option maxRecDepth 100000 in
theorem g300_765 {d : Nat} {u : Nat × Nat} {ls st : List z_V} {w : z_W} {Q : z_P} {o : Option Nat} : z_G d u 300 765 (z_vr o :: ls) st w Q ↔ z_G d u 300 766 (z_vr o :: ls) (z_vr o :: st) w Q := z_gun ((zF300_10 765 (by decide)).trans rfl)
set_option maxRecDepth 100000 in
theorem g300_765r {d : Nat} {u : Nat × Nat} {ls st : List z_V} {w : z_W} {Q : z_P} {k : Nat} : z_G d u 300 765 (z_r k :: ls) st w Q ↔ z_G d u 300 766 (z_r k :: ls) (z_r k :: st) w Q := z_gun ((zF300_10 765 (by decide)).trans rfl)
set_option maxRecDepth 100000 in
theorem g300_766 {d : Nat} {u : Nat × Nat} {ls st : List z_V} {w : z_W} {Q : z_P} {z : Int} {a0 a1 a2 a3 : z_V} : z_G d u 300 766 (a0 :: a1 :: a2 :: a3 :: z_i z :: ls) st w Q ↔ z_G d u 300 768 (a0 :: a1 :: a2 :: a3 :: z_i z :: ls) (z_i z :: st) w Q := z_gun ((zF300_10 766 (by decide)).trans rfl)
set_option maxRecDepth 100000 in
theorem g300_768 {d : Nat} {u : Nat × Nat} {ls st : List z_V} {w : z_W} {Q : z_P} : z_G d u 300 768 ls st w Q ↔ z_G d u 300 769 ls (z_i (1) :: st) w Q := z_gun ((zF300_10 768 (by decide)).trans rfl)
set_option maxRecDepth 100000 in
theorem g300_769 {d : Nat} {u : Nat × Nat} {ls st : List z_V} {w : z_W} {Q : z_P} {x y : Int} : z_G d u 300 769 ls (z_i y :: z_i x :: st) w Q ↔ z_G d u 300 770 ls (z_i (z_add x y) :: st) w Q := z_gun ((zF300_10 769 (by decide)).trans rfl)
set_option maxRecDepth 100000 in
theorem g300_770 {d : Nat} {u : Nat × Nat} {ls st : List z_V} {w : z_W} {Q : z_P} {p : Nat} {i : Int} : z_G d u 300 770 ls (z_i i :: z_r p :: st) w Q ↔ ((z_k w p = 100 ∨ z_k w p = 103) ∧ 0 ≤ i ∧ i < z_len w p ∧ (z_rg (z_I w p i) → z_G d u 300 771 ls (z_i (z_I w p i) :: st) w Q)) := z_gun ((zF300_10 770 (by decide)).trans rfl)
set_option maxRecDepth 100000 in
theorem g300_771 {d : Nat} {u : Nat × Nat} {ls st : List z_V} {w : z_W} {Q : z_P} {p : Nat} {x0 : Int} : z_G (d + 1) u 300 771 ls (z_i x0 :: z_r p :: st) w Q ↔ (z_k w p = 11 ∧ z_c8 st 8 = true ∧ z_G d (0, 0) 136 0 [z_r p, z_i x0] [] w (fun r w' => z_G (d + 1) u 300 774 ls (r.toList ++ st) w' Q)) := z_gcaV (d := d) (m := 300) (pc := 771) (m' := 136) (k := 2) (nL := 2) (nx := 774) (ci := 11) (p := p) (u := u) (ls := ls) (st := st) (w := w) (Q := Q) (vs := [z_r p, z_i x0]) ((zF300_11 771 (by decide)).trans rfl) rfl rfl
set_option maxRecDepth 100000 in
theorem g300_774 {d : Nat} {u : Nat × Nat} {ls st : List z_V} {w : z_W} {Q : z_P} {x : Int} : z_G d u 300 774 ls (z_i x :: st) w Q ↔ z_G d u 300 775 ls st w Q := z_gun ((zF300_11 774 (by decide)).trans rfl)
set_option maxRecDepth 100000 in
theorem g300_774r {d : Nat} {u : Nat × Nat} {ls st : List z_V} {w : z_W} {Q : z_P} {k : Nat} : z_G d u 300 774 ls (z_r k :: st) w Q ↔ z_G d u 300 775 ls st w Q := z_gun ((zF300_11 774 (by decide)).trans rfl)
set_option maxRecDepth 100000 in
theorem g300_775 {d : Nat} {u : Nat × Nat} {ls st : List z_V} {w : z_W} {Q : z_P} {o : Option Nat} {a0 a1 : z_V} : z_G d u 300 775 (a0 :: a1 :: z_vr o :: ls) st w Q ↔ z_G d u 300 776 (a0 :: a1 :: z_vr o :: ls) (z_vr o :: st) w Q := z_gun ((zF300_11 775 (by decide)).trans rfl)
set_option maxRecDepth 100000 in
theorem g300_775r {d : Nat} {u : Nat × Nat} {ls st : List z_V} {w : z_W} {Q : z_P} {k : Nat} {a0 a1 : z_V} : z_G d u 300 775 (a0 :: a1 :: z_r k :: ls) st w Q ↔ z_G d u 300 776 (a0 :: a1 :: z_r k :: ls) (z_r k :: st) w Q := z_gun ((zF300_11 775 (by decide)).trans rfl)
set_option maxRecDepth 100000 in
theorem g300_776 {d : Nat} {u : Nat × Nat} {ls st : List z_V} {w : z_W} {Q : z_P} {o : Option Nat} : z_G d u 300 776 (z_vr o :: ls) st w Q ↔ z_G d u 300 777 (z_vr o :: ls) (z_vr o :: st) w Q := z_gun ((zF300_11 776 (by decide)).trans rfl)
set_option maxRecDepth 100000 in
theorem g300_776r {d : Nat} {u : Nat × Nat} {ls st : List z_V} {w : z_W} {Q : z_P} {k : Nat} : z_G d u 300 776 (z_r k :: ls) st w Q ↔ z_G d u 300 777 (z_r k :: ls) (z_r k :: st) w Q := z_gun ((zF300_11 776 (by decide)).trans rfl)
set_option maxRecDepth 100000 in
theorem g300_777 {d : Nat} {u : Nat × Nat} {ls st : List z_V} {w : z_W} {Q : z_P} {z : Int} {a0 a1 a2 a3 : z_V} : z_G d u 300 777 (a0 :: a1 :: a2 :: a3 :: z_i z :: ls) st w Q ↔ z_G d u 300 779 (a0 :: a1 :: a2 :: a3 :: z_i z :: ls) (z_i z :: st) w Q := z_gun ((zF300_11 777 (by decide)).trans rfl)
set_option maxRecDepth 100000 in
theorem g300_779 {d : Nat} {u : Nat × Nat} {ls st : List z_V} {w : z_W} {Q : z_P} : z_G d u 300 779 ls st w Q ↔ z_G d u 300 780 ls (z_i (1) :: st) w Q := z_gun ((zF300_11 779 (by decide)).trans rfl)
set_option maxRecDepth 100000 in
theorem g300_780 {d : Nat} {u : Nat × Nat} {ls st : List z_V} {w : z_W} {Q : z_P} {x y : Int} : z_G d u 300 780 ls (z_i y :: z_i x :: st) w Q ↔ z_G d u 300 781 ls (z_i (z_add x y) :: st) w Q := z_gun ((zF300_11 780 (by decide)).trans rfl)
set_option maxRecDepth 100000 in
theorem g300_781 {d : Nat} {u : Nat × Nat} {ls st : List z_V} {w : z_W} {Q : z_P} {p : Nat} {i : Int} : z_G d u 300 781 ls (z_i i :: z_r p :: st) w Q ↔ ((z_k w p = 100 ∨ z_k w p = 103) ∧ 0 ≤ i ∧ i < z_len w p ∧ (z_rg (z_I w p i) → z_G d u 300 782 ls (z_i (z_I w p i) :: st) w Q)) := z_gun ((zF300_11 781 (by decide)).trans rfl)
set_option maxRecDepth 100000 in
theorem g300_782 {d : Nat} {u : Nat × Nat} {ls st : List z_V} {w : z_W} {Q : z_P} {p : Nat} {x0 : Int} : z_G (d + 1) u 300 782 ls (z_i x0 :: z_r p :: st) w Q ↔ (z_k w p = 12 ∧ z_c8 st 8 = true ∧ z_G d (0, 0) 262 0 [z_r p, z_i x0, z_x] [] w (fun r w' => z_G (d + 1) u 300 785 ls (r.toList ++ st) w' Q)) := z_gcaV (d := d) (m := 300) (pc := 782) (m' := 262) (k := 2) (nL := 3) (nx := 785) (ci := 12) (p := p) (u := u) (ls := ls) (st := st) (w := w) (Q := Q) (vs := [z_r p, z_i x0]) ((zF300_11 782 (by decide)).trans rfl) rfl rfl
set_option maxRecDepth 100000 in
theorem g300_785 {d : Nat} {u : Nat × Nat} {ls st : List z_V} {w : z_W} {Q : z_P} {x : Int} : z_G d u 300 785 ls (z_i x :: st) w Q ↔ z_G d u 300 786 ls st w Q := z_gun ((zF300_11 785 (by decide)).trans rfl)
set_option maxRecDepth 100000 in
theorem g300_785r {d : Nat} {u : Nat × Nat} {ls st : List z_V} {w : z_W} {Q : z_P} {k : Nat} : z_G d u 300 785 ls (z_r k :: st) w Q ↔ z_G d u 300 786 ls st w Q := z_gun ((zF300_11 785 (by decide)).trans rfl)
set_option maxRecDepth 100000 in
theorem g300_786 {d : Nat} {u : Nat × Nat} {ls st : List z_V} {w : z_W} {Q : z_P} : z_G d u 300 786 ls st w Q ↔ z_G d u 300 1614 ls st w Q := z_gun ((zF300_11 786 (by decide)).trans rfl)
set_option maxRecDepth 100000 in
theorem g300_789 {d : Nat} {u : Nat × Nat} {ls st : List z_V} {w : z_W} {Q : z_P} {o : Option Nat} {a0 : z_V} : z_G d u 300 789 (a0 :: z_vr o :: ls) st w Q ↔ z_G d u 300 790 (a0 :: z_vr o :: ls) (z_vr o :: st) w Q := z_gun ((zF300_11 789 (by decide)).trans rfl)
set_option maxRecDepth 100000 in
theorem g300_789r {d : Nat} {u : Nat × Nat} {ls st : List z_V} {w : z_W} {Q : z_P} {k : Nat} {a0 : z_V} : z_G d u 300 789 (a0 :: z_r k :: ls) st w Q ↔ z_G d u 300 790 (a0 :: z_r k :: ls) (z_r k :: st) w Q := z_gun ((zF300_11 789 (by decide)).trans rfl)
set_option maxRecDepth 100000 in
theorem g300_790 {d : Nat} {u : Nat × Nat} {ls st : List z_V} {w : z_W} {Q : z_P} {o : Option Nat} : z_G d u 300 790 (z_vr o :: ls) st w Q ↔ z_G d u 300 791 (z_vr o :: ls) (z_vr o :: st) w Q := z_gun ((zF300_11 790 (by decide)).trans rfl)
set_option maxRecDepth 100000 in
theorem g300_790r {d : Nat} {u : Nat × Nat} {ls st : List z_V} {w : z_W} {Q : z_P} {k : Nat} : z_G d u 300 790 (z_r k :: ls) st w Q ↔ z_G d u 300 791 (z_r k :: ls) (z_r k :: st) w Q := z_gun ((zF300_11 790 (by decide)).trans rfl)
set_option maxRecDepth 100000 in
theorem g300_791 {d : Nat} {u : Nat × Nat} {ls st : List z_V} {w : z_W} {Q : z_P} {z : Int} {a0 a1 a2 a3 : z_V} : z_G d u 300 791 (a0 :: a1 :: a2 :: a3 :: z_i z :: ls) st w Q ↔ z_G d u 300 793 (a0 :: a1 :: a2 :: a3 :: z_i z :: ls) (z_i z :: st) w Q := z_gun ((zF300_11 791 (by decide)).trans rfl)
set_option maxRecDepth 100000 in
theorem g300_793 {d : Nat} {u : Nat × Nat} {ls st : List z_V} {w : z_W} {Q : z_P} : z_G d u 300 793 ls st w Q ↔ z_G d u 300 794 ls (z_i (1) :: st) w Q := z_gun ((zF300_11 793 (by decide)).trans rfl)
set_option maxRecDepth 100000 in
theorem g300_794 {d : Nat} {u : Nat × Nat} {ls st : List z_V} {w : z_W} {Q : z_P} {x y : Int} : z_G d u 300 794 ls (z_i y :: z_i x :: st) w Q ↔ z_G d u 300 795 ls (z_i (z_add x y) :: st) w Q := z_gun ((zF300_11 794 (by decide)).trans rfl)
set_option maxRecDepth 100000 in
theorem g300_795 {d : Nat} {u : Nat × Nat} {ls st : List z_V} {w : z_W} {Q : z_P} {p : Nat} {i : Int} : z_G d u 300 795 ls (z_i i :: z_r p :: st) w Q ↔ ((z_k w p = 100 ∨ z_k w p = 103) ∧ 0 ≤ i ∧ i < z_len w p ∧ (z_rg (z_I w p i) → z_G d u 300 796 ls (z_i (z_I w p i) :: st) w Q)) := z_gun ((zF300_11 795 (by decide)).trans rfl)
set_option maxRecDepth 100000 in
theorem g300_796 {d : Nat} {u : Nat × Nat} {ls st : List z_V} {w : z_W} {Q : z_P} {o : Option Nat} : z_G d u 300 796 (z_vr o :: ls) st w Q ↔ z_G d u 300 797 (z_vr o :: ls) (z_vr o :: st) w Q := z_gun ((zF300_11 796 (by decide)).trans rfl)
set_option maxRecDepth 100000 in
theorem g300_796r {d : Nat} {u : Nat × Nat} {ls st : List z_V} {w : z_W} {Q : z_P} {k : Nat} : z_G d u 300 796 (z_r k :: ls) st w Q ↔ z_G d u 300 797 (z_r k :: ls) (z_r k :: st) w Q := z_gun ((zF300_11 796 (by decide)).trans rfl)
set_option maxRecDepth 100000 in
theorem g300_797 {d : Nat} {u : Nat × Nat} {ls st : List z_V} {w : z_W} {Q : z_P} {z : Int} {a0 a1 a2 a3 : z_V} : z_G d u 300 797 (a0 :: a1 :: a2 :: a3 :: z_i z :: ls) st w Q ↔ z_G d u 300 799 (a0 :: a1 :: a2 :: a3 :: z_i z :: ls) (z_i z :: st) w Q := z_gun ((zF300_11 797 (by decide)).trans rfl)
set_option maxRecDepth 100000 in
theorem g300_799 {d : Nat} {u : Nat × Nat} {ls st : List z_V} {w : z_W} {Q : z_P} : z_G d u 300 799 ls st w Q ↔ z_G d u 300 800 ls (z_i (2) :: st) w Q := z_gun ((zF300_11 799 (by decide)).trans rfl)
set_option maxRecDepth 100000 in
theorem g300_800 {d : Nat} {u : Nat × Nat} {ls st : List z_V} {w : z_W} {Q : z_P} {x y : Int} : z_G d u 300 800 ls (z_i y :: z_i x :: st) w Q ↔ z_G d u 300 801 ls (z_i (z_add x y) :: st) w Q := z_gun ((zF300_11 800 (by decide)).trans rfl)
set_option maxRecDepth 100000 in
theorem g300_801 {d : Nat} {u : Nat × Nat} {ls st : List z_V} {w : z_W} {Q : z_P} {p : Nat} {i : Int} : z_G d u 300 801 ls (z_i i :: z_r p :: st) w Q ↔ ((z_k w p = 100 ∨ z_k w p = 103) ∧ 0 ≤ i ∧ i < z_len w p ∧ (z_rg (z_I w p i) → z_G d u 300 802 ls (z_i (z_I w p i) :: st) w Q)) := z_gun ((zF300_11 801 (by decide)).trans rfl)
set_option maxRecDepth 100000 in
theorem g300_802 {d : Nat} {u : Nat × Nat} {ls st : List z_V} {w : z_W} {Q : z_P} {o : Option Nat} : z_G d u 300 802 (z_vr o :: ls) st w Q ↔ z_G d u 300 803 (z_vr o :: ls) (z_vr o :: st) w Q := z_gun ((zF300_11 802 (by decide)).trans rfl)
set_option maxRecDepth 100000 in
theorem g300_802r {d : Nat} {u : Nat × Nat} {ls st : List z_V} {w : z_W} {Q : z_P} {k : Nat} : z_G d u 300 802 (z_r k :: ls) st w Q ↔ z_G d u 300 803 (z_r k :: ls) (z_r k :: st) w Q := z_gun ((zF300_11 802 (by decide)).trans rfl)
set_option maxRecDepth 100000 in
theorem g300_803 {d : Nat} {u : Nat × Nat} {ls st : List z_V} {w : z_W} {Q : z_P} {z : Int} {a0 a1 a2 a3 : z_V} : z_G d u 300 803 (a0 :: a1 :: a2 :: a3 :: z_i z :: ls) st w Q ↔ z_G d u 300 805 (a0 :: a1 :: a2 :: a3 :: z_i z :: ls) (z_i z :: st) w Q := z_gun ((zF300_11 803 (by decide)).trans rfl)
set_option maxRecDepth 100000 in
theorem g300_805 {d : Nat} {u : Nat × Nat} {ls st : List z_V} {w : z_W} {Q : z_P} : z_G d u 300 805 ls st w Q ↔ z_G d u 300 806 ls (z_i (3) :: st) w Q := z_gun ((zF300_11 805 (by decide)).trans rfl)
set_option maxRecDepth 100000 in
theorem g300_806 {d : Nat} {u : Nat × Nat} {ls st : List z_V} {w : z_W} {Q : z_P} {x y : Int} : z_G d u 300 806 ls (z_i y :: z_i x :: st) w Q ↔ z_G d u 300 807 ls (z_i (z_add x y) :: st) w Q := z_gun ((zF300_11 806 (by decide)).trans rfl)
set_option maxRecDepth 100000 in
theorem g300_807 {d : Nat} {u : Nat × Nat} {ls st : List z_V} {w : z_W} {Q : z_P} {p : Nat} {i : Int} : z_G d u 300 807 ls (z_i i :: z_r p :: st) w Q ↔ ((z_k w p = 100 ∨ z_k w p = 103) ∧ 0 ≤ i ∧ i < z_len w p ∧ (z_rg (z_I w p i) → z_G d u 300 808 ls (z_i (z_I w p i) :: st) w Q)) := z_gun ((zF300_11 807 (by decide)).trans rfl)
set_option maxRecDepth 100000 in
theorem g300_808 {d : Nat} {u : Nat × Nat} {ls st : List z_V} {w : z_W} {Q : z_P} {o : Option Nat} : z_G d u 300 808 (z_vr o :: ls) st w Q ↔ z_G d u 300 809 (z_vr o :: ls) (z_vr o :: st) w Q := z_gun ((zF300_11 808 (by decide)).trans rfl)
set_option maxRecDepth 100000 in
theorem g300_808r {d : Nat} {u : Nat × Nat} {ls st : List z_V} {w : z_W} {Q : z_P} {k : Nat} : z_G d u 300 808 (z_r k :: ls) st w Q ↔ z_G d u 300 809 (z_r k :: ls) (z_r k :: st) w Q := z_gun ((zF300_11 808 (by decide)).trans rfl)
set_option maxRecDepth 100000 in
theorem g300_809 {d : Nat} {u : Nat × Nat} {ls st : List z_V} {w : z_W} {Q : z_P} {z : Int} {a0 a1 a2 a3 : z_V} : z_G d u 300 809 (a0 :: a1 :: a2 :: a3 :: z_i z :: ls) st w Q ↔ z_G d u 300 811 (a0 :: a1 :: a2 :: a3 :: z_i z :: ls) (z_i z :: st) w Q := z_gun ((zF300_11 809 (by decide)).trans rfl)
set_option maxRecDepth 100000 in
theorem g300_811 {d : Nat} {u : Nat × Nat} {ls st : List z_V} {w : z_W} {Q : z_P} : z_G d u 300 811 ls st w Q ↔ z_G d u 300 812 ls (z_i (4) :: st) w Q := z_gun ((zF300_11 811 (by decide)).trans rfl)
set_option maxRecDepth 100000 in
theorem g300_812 {d : Nat} {u : Nat × Nat} {ls st : List z_V} {w : z_W} {Q : z_P} {x y : Int} : z_G d u 300 812 ls (z_i y :: z_i x :: st) w Q ↔ z_G d u 300 813 ls (z_i (z_add x y) :: st) w Q := z_gun ((zF300_11 812 (by decide)).trans rfl)
set_option maxRecDepth 100000 in
theorem g300_813 {d : Nat} {u : Nat × Nat} {ls st : List z_V} {w : z_W} {Q : z_P} {p : Nat} {i : Int} : z_G d u 300 813 ls (z_i i :: z_r p :: st) w Q ↔ ((z_k w p = 100 ∨ z_k w p = 103) ∧ 0 ≤ i ∧ i < z_len w p ∧ (z_rg (z_I w p i) → z_G d u 300 814 ls (z_i (z_I w p i) :: st) w Q)) := z_gun ((zF300_11 813 (by decide)).trans rfl)
set_option maxRecDepth 100000 in
theorem g300_814 {d : Nat} {u : Nat × Nat} {ls st : List z_V} {w : z_W} {Q : z_P} {o : Option Nat} : z_G d u 300 814 (z_vr o :: ls) st w Q ↔ z_G d u 300 815 (z_vr o :: ls) (z_vr o :: st) w Q := z_gun ((zF300_11 814 (by decide)).trans rfl)
set_option maxRecDepth 100000 in
theorem g300_814r {d : Nat} {u : Nat × Nat} {ls st : List z_V} {w : z_W} {Q : z_P} {k : Nat} : z_G d u 300 814 (z_r k :: ls) st w Q ↔ z_G d u 300 815 (z_r k :: ls) (z_r k :: st) w Q := z_gun ((zF300_11 814 (by decide)).trans rfl)
set_option maxRecDepth 100000 in
theorem g300_815 {d : Nat} {u : Nat × Nat} {ls st : List z_V} {w : z_W} {Q : z_P} {z : Int} {a0 a1 a2 a3 : z_V} : z_G d u 300 815 (a0 :: a1 :: a2 :: a3 :: z_i z :: ls) st w Q ↔ z_G d u 300 817 (a0 :: a1 :: a2 :: a3 :: z_i z :: ls) (z_i z :: st) w Q := z_gun ((zF300_11 815 (by decide)).trans rfl)
set_option maxRecDepth 100000 in
theorem g300_817 {d : Nat} {u : Nat × Nat} {ls st : List z_V} {w : z_W} {Q : z_P} : z_G d u 300 817 ls st w Q ↔ z_G d u 300 818 ls (z_i (5) :: st) w Q := z_gun ((zF300_11 817 (by decide)).trans rfl)
set_option maxRecDepth 100000 in
theorem g300_818 {d : Nat} {u : Nat × Nat} {ls st : List z_V} {w : z_W} {Q : z_P} {x y : Int} : z_G d u 300 818 ls (z_i y :: z_i x :: st) w Q ↔ z_G d u 300 819 ls (z_i (z_add x y) :: st) w Q := z_gun ((zF300_11 818 (by decide)).trans rfl)
set_option maxRecDepth 100000 in
theorem g300_819 {d : Nat} {u : Nat × Nat} {ls st : List z_V} {w : z_W} {Q : z_P} {p : Nat} {i : Int} : z_G d u 300 819 ls (z_i i :: z_r p :: st) w Q ↔ ((z_k w p = 100 ∨ z_k w p = 103) ∧ 0 ≤ i ∧ i < z_len w p ∧ (z_rg (z_I w p i) → z_G d u 300 820 ls (z_i (z_I w p i) :: st) w Q)) := z_gun ((zF300_11 819 (by decide)).trans rfl)
set_option maxRecDepth 100000 in
theorem g300_820 {d : Nat} {u : Nat × Nat} {ls st : List z_V} {w : z_W} {Q : z_P} {p : Nat} {x0 x1 x2 x3 x4 : Int} : z_G (d + 1) u 300 820 ls (z_i x4 :: z_i x3 :: z_i x2 :: z_i x1 :: z_i x0 :: z_r p :: st) w Q ↔ (z_k w p = 11 ∧ z_c8 st 8 = true ∧ z_G d (0, 0) 137 0 [z_r p, z_i x0, z_i x1, z_i x2, z_i x3, z_i x4] [] w (fun r w' => z_G (d + 1) u 300 823 ls (r.toList ++ st) w' Q)) := z_gcaV (d := d) (m := 300) (pc := 820) (m' := 137) (k := 6) (nL := 6) (nx := 823) (ci := 11) (p := p) (u := u) (ls := ls) (st := st) (w := w) (Q := Q) (vs := [z_r p, z_i x0, z_i x1, z_i x2, z_i x3, z_i x4]) ((zF300_11 820 (by decide)).trans rfl) rfl rfl
set_option maxRecDepth 100000 in
theorem g300_823 {d : Nat} {u : Nat × Nat} {ls st : List z_V} {w : z_W} {Q : z_P} {x : Int} : z_G d u 300 823 ls (z_i x :: st) w Q ↔ z_G d u 300 824 ls st w Q := z_gun ((zF300_11 823 (by decide)).trans rfl)
set_option maxRecDepth 100000 in
theorem g300_823r {d : Nat} {u : Nat × Nat} {ls st : List z_V} {w : z_W} {Q : z_P} {k : Nat} : z_G d u 300 823 ls (z_r k :: st) w Q ↔ z_G d u 300 824 ls st w Q := z_gun ((zF300_11 823 (by decide)).trans rfl)
set_option maxRecDepth 100000 in
theorem g300_824 {d : Nat} {u : Nat × Nat} {ls st : List z_V} {w : z_W} {Q : z_P} {o : Option Nat} {a0 a1 : z_V} : z_G d u 300 824 (a0 :: a1 :: z_vr o :: ls) st w Q ↔ z_G d u 300 825 (a0 :: a1 :: z_vr o :: ls) (z_vr o :: st) w Q := z_gun ((zF300_11 824 (by decide)).trans rfl)
set_option maxRecDepth 100000 in
theorem g300_824r {d : Nat} {u : Nat × Nat} {ls st : List z_V} {w : z_W} {Q : z_P} {k : Nat} {a0 a1 : z_V} : z_G d u 300 824 (a0 :: a1 :: z_r k :: ls) st w Q ↔ z_G d u 300 825 (a0 :: a1 :: z_r k :: ls) (z_r k :: st) w Q := z_gun ((zF300_11 824 (by decide)).trans rfl)
set_option maxRecDepth 100000 in
theorem g300_825 {d : Nat} {u : Nat × Nat} {ls st : List z_V} {w : z_W} {Q : z_P} {o : Option Nat} : z_G d u 300 825 (z_vr o :: ls) st w Q ↔ z_G d u 300 826 (z_vr o :: ls) (z_vr o :: st) w Q := z_gun ((zF300_12 825 (by decide)).trans rfl)
set_option maxRecDepth 100000 in
theorem g300_825r {d : Nat} {u : Nat × Nat} {ls st : List z_V} {w : z_W} {Q : z_P} {k : Nat} : z_G d u 300 825 (z_r k :: ls) st w Q ↔ z_G d u 300 826 (z_r k :: ls) (z_r k :: st) w Q := z_gun ((zF300_12 825 (by decide)).trans rfl)
set_option maxRecDepth 100000 in
theorem g300_826 {d : Nat} {u : Nat × Nat} {ls st : List z_V} {w : z_W} {Q : z_P} {z : Int} {a0 a1 a2 a3 : z_V} : z_G d u 300 826 (a0 :: a1 :: a2 :: a3 :: z_i z :: ls) st w Q ↔ z_G d u 300 828 (a0 :: a1 :: a2 :: a3 :: z_i z :: ls) (z_i z :: st) w Q := z_gun ((zF300_12 826 (by decide)).trans rfl)
set_option maxRecDepth 100000 in
theorem g300_828 {d : Nat} {u : Nat × Nat} {ls st : List z_V} {w : z_W} {Q : z_P} : z_G d u 300 828 ls st w Q ↔ z_G d u 300 829 ls (z_i (1) :: st) w Q := z_gun ((zF300_12 828 (by decide)).trans rfl)
set_option maxRecDepth 100000 in
theorem g300_829 {d : Nat} {u : Nat × Nat} {ls st : List z_V} {w : z_W} {Q : z_P} {x y : Int} : z_G d u 300 829 ls (z_i y :: z_i x :: st) w Q ↔ z_G d u 300 830 ls (z_i (z_add x y) :: st) w Q := z_gun ((zF300_12 829 (by decide)).trans rfl)
set_option maxRecDepth 100000 in
theorem g300_830 {d : Nat} {u : Nat × Nat} {ls st : List z_V} {w : z_W} {Q : z_P} {p : Nat} {i : Int} : z_G d u 300 830 ls (z_i i :: z_r p :: st) w Q ↔ ((z_k w p = 100 ∨ z_k w p = 103) ∧ 0 ≤ i ∧ i < z_len w p ∧ (z_rg (z_I w p i) → z_G d u 300 831 ls (z_i (z_I w p i) :: st) w Q)) := z_gun ((zF300_12 830 (by decide)).trans rfl)
set_option maxRecDepth 100000 in
theorem g300_831 {d : Nat} {u : Nat × Nat} {ls st : List z_V} {w : z_W} {Q : z_P} {o : Option Nat} : z_G d u 300 831 (z_vr o :: ls) st w Q ↔ z_G d u 300 832 (z_vr o :: ls) (z_vr o :: st) w Q := z_gun ((zF300_12 831 (by decide)).trans rfl)
set_option maxRecDepth 100000 in
theorem g300_831r {d : Nat} {u : Nat × Nat} {ls st : List z_V} {w : z_W} {Q : z_P} {k : Nat} : z_G d u 300 831 (z_r k :: ls) st w Q ↔ z_G d u 300 832 (z_r k :: ls) (z_r k :: st) w Q := z_gun ((zF300_12 831 (by decide)).trans rfl)
set_option maxRecDepth 100000 in
theorem g300_832 {d : Nat} {u : Nat × Nat} {ls st : List z_V} {w : z_W} {Q : z_P} {z : Int} {a0 a1 a2 a3 : z_V} : z_G d u 300 832 (a0 :: a1 :: a2 :: a3 :: z_i z :: ls) st w Q ↔ z_G d u 300 834 (a0 :: a1 :: a2 :: a3 :: z_i z :: ls) (z_i z :: st) w Q := z_gun ((zF300_12 832 (by decide)).trans rfl)
set_option maxRecDepth 100000 in
theorem g300_834 {d : Nat} {u : Nat × Nat} {ls st : List z_V} {w : z_W} {Q : z_P} : z_G d u 300 834 ls st w Q ↔ z_G d u 300 835 ls (z_i (2) :: st) w Q := z_gun ((zF300_12 834 (by decide)).trans rfl)
set_option maxRecDepth 100000 in
theorem g300_835 {d : Nat} {u : Nat × Nat} {ls st : List z_V} {w : z_W} {Q : z_P} {x y : Int} : z_G d u 300 835 ls (z_i y :: z_i x :: st) w Q ↔ z_G d u 300 836 ls (z_i (z_add x y) :: st) w Q := z_gun ((zF300_12 835 (by decide)).trans rfl)
set_option maxRecDepth 100000 in
theorem g300_836 {d : Nat} {u : Nat × Nat} {ls st : List z_V} {w : z_W} {Q : z_P} {p : Nat} {i : Int} : z_G d u 300 836 ls (z_i i :: z_r p :: st) w Q ↔ ((z_k w p = 100 ∨ z_k w p = 103) ∧ 0 ≤ i ∧ i < z_len w p ∧ (z_rg (z_I w p i) → z_G d u 300 837 ls (z_i (z_I w p i) :: st) w Q)) := z_gun ((zF300_12 836 (by decide)).trans rfl)
set_option maxRecDepth 100000 in
theorem g300_837 {d : Nat} {u : Nat × Nat} {ls st : List z_V} {w : z_W} {Q : z_P} {o : Option Nat} : z_G d u 300 837 (z_vr o :: ls) st w Q ↔ z_G d u 300 838 (z_vr o :: ls) (z_vr o :: st) w Q := z_gun ((zF300_12 837 (by decide)).trans rfl)
set_option maxRecDepth 100000 in
theorem g300_837r {d : Nat} {u : Nat × Nat} {ls st : List z_V} {w : z_W} {Q : z_P} {k : Nat} : z_G d u 300 837 (z_r k :: ls) st w Q ↔ z_G d u 300 838 (z_r k :: ls) (z_r k :: st) w Q := z_gun ((zF300_12 837 (by decide)).trans rfl)
set_option maxRecDepth 100000 in
theorem g300_838 {d : Nat} {u : Nat × Nat} {ls st : List z_V} {w : z_W} {Q : z_P} {z : Int} {a0 a1 a2 a3 : z_V} : z_G d u 300 838 (a0 :: a1 :: a2 :: a3 :: z_i z :: ls) st w Q ↔ z_G d u 300 840 (a0 :: a1 :: a2 :: a3 :: z_i z :: ls) (z_i z :: st) w Q := z_gun ((zF300_12 838 (by decide)).trans rfl)
set_option maxRecDepth 100000 in
theorem g300_840 {d : Nat} {u : Nat × Nat} {ls st : List z_V} {w : z_W} {Q : z_P} : z_G d u 300 840 ls st w Q ↔ z_G d u 300 841 ls (z_i (3) :: st) w Q := z_gun ((zF300_12 840 (by decide)).trans rfl)
set_option maxRecDepth 100000 in
theorem g300_841 {d : Nat} {u : Nat × Nat} {ls st : List z_V} {w : z_W} {Q : z_P} {x y : Int} : z_G d u 300 841 ls (z_i y :: z_i x :: st) w Q ↔ z_G d u 300 842 ls (z_i (z_add x y) :: st) w Q := z_gun ((zF300_12 841 (by decide)).trans rfl)
set_option maxRecDepth 100000 in
theorem g300_842 {d : Nat} {u : Nat × Nat} {ls st : List z_V} {w : z_W} {Q : z_P} {p : Nat} {i : Int} : z_G d u 300 842 ls (z_i i :: z_r p :: st) w Q ↔ ((z_k w p = 100 ∨ z_k w p = 103) ∧ 0 ≤ i ∧ i < z_len w p ∧ (z_rg (z_I w p i) → z_G d u 300 843 ls (z_i (z_I w p i) :: st) w Q)) := z_gun ((zF300_12 842 (by decide)).trans rfl)
set_option maxRecDepth 100000 in
theorem g300_843 {d : Nat} {u : Nat × Nat} {ls st : List z_V} {w : z_W} {Q : z_P} {o : Option Nat} : z_G d u 300 843 (z_vr o :: ls) st w Q ↔ z_G d u 300 844 (z_vr o :: ls) (z_vr o :: st) w Q := z_gun ((zF300_12 843 (by decide)).trans rfl)
set_option maxRecDepth 100000 in
theorem g300_843r {d : Nat} {u : Nat × Nat} {ls st : List z_V} {w : z_W} {Q : z_P} {k : Nat} : z_G d u 300 843 (z_r k :: ls) st w Q ↔ z_G d u 300 844 (z_r k :: ls) (z_r k :: st) w Q := z_gun ((zF300_12 843 (by decide)).trans rfl)
set_option maxRecDepth 100000 in
theorem g300_844 {d : Nat} {u : Nat × Nat} {ls st : List z_V} {w : z_W} {Q : z_P} {z : Int} {a0 a1 a2 a3 : z_V} : z_G d u 300 844 (a0 :: a1 :: a2 :: a3 :: z_i z :: ls) st w Q ↔ z_G d u 300 846 (a0 :: a1 :: a2 :: a3 :: z_i z :: ls) (z_i z :: st) w Q := z_gun ((zF300_12 844 (by decide)).trans rfl)
set_option maxRecDepth 100000 in
theorem g300_846 {d : Nat} {u : Nat × Nat} {ls st : List z_V} {w : z_W} {Q : z_P} : z_G d u 300 846 ls st w Q ↔ z_G d u 300 847 ls (z_i (4) :: st) w Q := z_gun ((zF300_12 846 (by decide)).trans rfl)
set_option maxRecDepth 100000 in
theorem g300_847 {d : Nat} {u : Nat × Nat} {ls st : List z_V} {w : z_W} {Q : z_P} {x y : Int} : z_G d u 300 847 ls (z_i y :: z_i x :: st) w Q ↔ z_G d u 300 848 ls (z_i (z_add x y) :: st) w Q := z_gun ((zF300_12 847 (by decide)).trans rfl)
set_option maxRecDepth 100000 in
theorem g300_848 {d : Nat} {u : Nat × Nat} {ls st : List z_V} {w : z_W} {Q : z_P} {p : Nat} {i : Int} : z_G d u 300 848 ls (z_i i :: z_r p :: st) w Q ↔ ((z_k w p = 100 ∨ z_k w p = 103) ∧ 0 ≤ i ∧ i < z_len w p ∧ (z_rg (z_I w p i) → z_G d u 300 849 ls (z_i (z_I w p i) :: st) w Q)) := z_gun ((zF300_12 848 (by decide)).trans rfl)
set_option maxRecDepth 100000 in
theorem g300_849 {d : Nat} {u : Nat × Nat} {ls st : List z_V} {w : z_W} {Q : z_P} {o : Option Nat} : z_G d u 300 849 (z_vr o :: ls) st w Q ↔ z_G d u 300 850 (z_vr o :: ls) (z_vr o :: st) w Q := z_gun ((zF300_12 849 (by decide)).trans rfl)
set_option maxRecDepth 100000 in
theorem g300_849r {d : Nat} {u : Nat × Nat} {ls st : List z_V} {w : z_W} {Q : z_P} {k : Nat} : z_G d u 300 849 (z_r k :: ls) st w Q ↔ z_G d u 300 850 (z_r k :: ls) (z_r k :: st) w Q := z_gun ((zF300_12 849 (by decide)).trans rfl)
set_option maxRecDepth 100000 in
theorem g300_850 {d : Nat} {u : Nat × Nat} {ls st : List z_V} {w : z_W} {Q : z_P} {z : Int} {a0 a1 a2 a3 : z_V} : z_G d u 300 850 (a0 :: a1 :: a2 :: a3 :: z_i z :: ls) st w Q ↔ z_G d u 300 852 (a0 :: a1 :: a2 :: a3 :: z_i z :: ls) (z_i z :: st) w Q := z_gun ((zF300_12 850 (by decide)).trans rfl)
set_option maxRecDepth 100000 in
theorem g300_852 {d : Nat} {u : Nat × Nat} {ls st : List z_V} {w : z_W} {Q : z_P} : z_G d u 300 852 ls st w Q ↔ z_G d u 300 853 ls (z_i (5) :: st) w Q := z_gun ((zF300_12 852 (by decide)).trans rfl)
set_option maxRecDepth 100000 in
theorem g300_853 {d : Nat} {u : Nat × Nat} {ls st : List z_V} {w : z_W} {Q : z_P} {x y : Int} : z_G d u 300 853 ls (z_i y :: z_i x :: st) w Q ↔ z_G d u 300 854 ls (z_i (z_add x y) :: st) w Q := z_gun ((zF300_12 853 (by decide)).trans rfl)
set_option maxRecDepth 100000 in
theorem g300_854 {d : Nat} {u : Nat × Nat} {ls st : List z_V} {w : z_W} {Q : z_P} {p : Nat} {i : Int} : z_G d u 300 854 ls (z_i i :: z_r p :: st) w Q ↔ ((z_k w p = 100 ∨ z_k w p = 103) ∧ 0 ≤ i ∧ i < z_len w p ∧ (z_rg (z_I w p i) → z_G d u 300 855 ls (z_i (z_I w p i) :: st) w Q)) := z_gun ((zF300_12 854 (by decide)).trans rfl)
set_option maxRecDepth 100000 in
theorem g300_855 {d : Nat} {u : Nat × Nat} {ls st : List z_V} {w : z_W} {Q : z_P} {p : Nat} {x0 x1 x2 x3 x4 : Int} : z_G (d + 1) u 300 855 ls (z_i x4 :: z_i x3 :: z_i x2 :: z_i x1 :: z_i x0 :: z_r p :: st) w Q ↔ (z_k w p = 12 ∧ z_c8 st 8 = true ∧ z_G d (0, 0) 238 0 [z_r p, z_i x0, z_i x1, z_i x2, z_i x3, z_i x4] [] w (fun r w' => z_G (d + 1) u 300 858 ls (r.toList ++ st) w' Q)) := z_gcaV (d := d) (m := 300) (pc := 855) (m' := 238) (k := 6) (nL := 6) (nx := 858) (ci := 12) (p := p) (u := u) (ls := ls) (st := st) (w := w) (Q := Q) (vs := [z_r p, z_i x0, z_i x1, z_i x2, z_i x3, z_i x4]) ((zF300_12 855 (by decide)).trans rfl) rfl rfl
set_option maxRecDepth 100000 in
theorem g300_858 {d : Nat} {u : Nat × Nat} {ls st : List z_V} {w : z_W} {Q : z_P} {x : Int} : z_G d u 300 858 ls (z_i x :: st) w Q ↔ z_G d u 300 859 ls st w Q := z_gun ((zF300_12 858 (by decide)).trans rfl)
set_option maxRecDepth 100000 in
theorem g300_858r {d : Nat} {u : Nat × Nat} {ls st : List z_V} {w : z_W} {Q : z_P} {k : Nat} : z_G d u 300 858 ls (z_r k :: st) w Q ↔ z_G d u 300 859 ls st w Q := z_gun ((zF300_12 858 (by decide)).trans rfl)
set_option maxRecDepth 100000 in
theorem g300_859 {d : Nat} {u : Nat × Nat} {ls st : List z_V} {w : z_W} {Q : z_P} : z_G d u 300 859 ls st w Q ↔ z_G d u 300 1614 ls st w Q := z_gun ((zF300_12 859 (by decide)).trans rfl)
set_option maxRecDepth 100000 in
theorem g300_862 {d : Nat} {u : Nat × Nat} {ls st : List z_V} {w : z_W} {Q : z_P} {o : Option Nat} {a0 : z_V} : z_G d u 300 862 (a0 :: z_vr o :: ls) st w Q ↔ z_G d u 300 863 (a0 :: z_vr o :: ls) (z_vr o :: st) w Q := z_gun ((zF300_12 862 (by decide)).trans rfl)
set_option maxRecDepth 100000 in
theorem g300_862r {d : Nat} {u : Nat × Nat} {ls st : List z_V} {w : z_W} {Q : z_P} {k : Nat} {a0 : z_V} : z_G d u 300 862 (a0 :: z_r k :: ls) st w Q ↔ z_G d u 300 863 (a0 :: z_r k :: ls) (z_r k :: st) w Q := z_gun ((zF300_12 862 (by decide)).trans rfl)
set_option maxRecDepth 100000 in
theorem g300_863 {d : Nat} {u : Nat × Nat} {ls st : List z_V} {w : z_W} {Q : z_P} {o : Option Nat} : z_G d u 300 863 (z_vr o :: ls) st w Q ↔ z_G d u 300 864 (z_vr o :: ls) (z_vr o :: st) w Q := z_gun ((zF300_12 863 (by decide)).trans rfl)
set_option maxRecDepth 100000 in
theorem g300_863r {d : Nat} {u : Nat × Nat} {ls st : List z_V} {w : z_W} {Q : z_P} {k : Nat} : z_G d u 300 863 (z_r k :: ls) st w Q ↔ z_G d u 300 864 (z_r k :: ls) (z_r k :: st) w Q := z_gun ((zF300_12 863 (by decide)).trans rfl)
set_option maxRecDepth 100000 in
theorem g300_864 {d : Nat} {u : Nat × Nat} {ls st : List z_V} {w : z_W} {Q : z_P} {z : Int} {a0 a1 a2 a3 : z_V} : z_G d u 300 864 (a0 :: a1 :: a2 :: a3 :: z_i z :: ls) st w Q ↔ z_G d u 300 866 (a0 :: a1 :: a2 :: a3 :: z_i z :: ls) (z_i z :: st) w Q := z_gun ((zF300_12 864 (by decide)).trans rfl)
set_option maxRecDepth 100000 in
theorem g300_866 {d : Nat} {u : Nat × Nat} {ls st : List z_V} {w : z_W} {Q : z_P} : z_G d u 300 866 ls st w Q ↔ z_G d u 300 867 ls (z_i (1) :: st) w Q := z_gun ((zF300_12 866 (by decide)).trans rfl)
set_option maxRecDepth 100000 in
theorem g300_867 {d : Nat} {u : Nat × Nat} {ls st : List z_V} {w : z_W} {Q : z_P} {x y : Int} : z_G d u 300 867 ls (z_i y :: z_i x :: st) w Q ↔ z_G d u 300 868 ls (z_i (z_add x y) :: st) w Q := z_gun ((zF300_12 867 (by decide)).trans rfl)
set_option maxRecDepth 100000 in
theorem g300_868 {d : Nat} {u : Nat × Nat} {ls st : List z_V} {w : z_W} {Q : z_P} {p : Nat} {i : Int} : z_G d u 300 868 ls (z_i i :: z_r p :: st) w Q ↔ ((z_k w p = 100 ∨ z_k w p = 103) ∧ 0 ≤ i ∧ i < z_len w p ∧ (z_rg (z_I w p i) → z_G d u 300 869 ls (z_i (z_I w p i) :: st) w Q)) := z_gun ((zF300_12 868 (by decide)).trans rfl)
set_option maxRecDepth 100000 in
theorem g300_869 {d : Nat} {u : Nat × Nat} {ls st : List z_V} {w : z_W} {Q : z_P} {p : Nat} {x0 : Int} : z_G (d + 1) u 300 869 ls (z_i x0 :: z_r p :: st) w Q ↔ (z_k w p = 11 ∧ z_c8 st 8 = true ∧ z_G d (0, 0) 138 0 [z_r p, z_i x0] [] w (fun r w' => z_G (d + 1) u 300 872 ls (r.toList ++ st) w' Q)) := z_gcaV (d := d) (m := 300) (pc := 869) (m' := 138) (k := 2) (nL := 2) (nx := 872) (ci := 11) (p := p) (u := u) (ls := ls) (st := st) (w := w) (Q := Q) (vs := [z_r p, z_i x0]) ((zF300_12 869 (by decide)).trans rfl) rfl rfl
set_option maxRecDepth 100000 in
theorem g300_872 {d : Nat} {u : Nat × Nat} {ls st : List z_V} {w : z_W} {Q : z_P} {x : Int} : z_G d u 300 872 ls (z_i x :: st) w Q ↔ z_G d u 300 873 ls st w Q := z_gun ((zF300_12 872 (by decide)).trans rfl)
set_option maxRecDepth 100000 in
theorem g300_872r {d : Nat} {u : Nat × Nat} {ls st : List z_V} {w : z_W} {Q : z_P} {k : Nat} : z_G d u 300 872 ls (z_r k :: st) w Q ↔ z_G d u 300 873 ls st w Q := z_gun ((zF300_12 872 (by decide)).trans rfl)
set_option maxRecDepth 100000 in
theorem g300_873 {d : Nat} {u : Nat × Nat} {ls st : List z_V} {w : z_W} {Q : z_P} {o : Option Nat} {a0 a1 : z_V} : z_G d u 300 873 (a0 :: a1 :: z_vr o :: ls) st w Q ↔ z_G d u 300 874 (a0 :: a1 :: z_vr o :: ls) (z_vr o :: st) w Q := z_gun ((zF300_12 873 (by decide)).trans rfl)
set_option maxRecDepth 100000 in
theorem g300_873r {d : Nat} {u : Nat × Nat} {ls st : List z_V} {w : z_W} {Q : z_P} {k : Nat} {a0 a1 : z_V} : z_G d u 300 873 (a0 :: a1 :: z_r k :: ls) st w Q ↔ z_G d u 300 874 (a0 :: a1 :: z_r k :: ls) (z_r k :: st) w Q := z_gun ((zF300_12 873 (by decide)).trans rfl)
set_option maxRecDepth 100000 in
theorem g300_874 {d : Nat} {u : Nat × Nat} {ls st : List z_V} {w : z_W} {Q : z_P} {o : Option Nat} : z_G d u 300 874 (z_vr o :: ls) st w Q ↔ z_G d u 300 875 (z_vr o :: ls) (z_vr o :: st) w Q := z_gun ((zF300_12 874 (by decide)).trans rfl)
set_option maxRecDepth 100000 in
theorem g300_874r {d : Nat} {u : Nat × Nat} {ls st : List z_V} {w : z_W} {Q : z_P} {k : Nat} : z_G d u 300 874 (z_r k :: ls) st w Q ↔ z_G d u 300 875 (z_r k :: ls) (z_r k :: st) w Q := z_gun ((zF300_12 874 (by decide)).trans rfl)
set_option maxRecDepth 100000 in
theorem g300_875 {d : Nat} {u : Nat × Nat} {ls st : List z_V} {w : z_W} {Q : z_P} {z : Int} {a0 a1 a2 a3 : z_V} : z_G d u 300 875 (a0 :: a1 :: a2 :: a3 :: z_i z :: ls) st w Q ↔ z_G d u 300 877 (a0 :: a1 :: a2 :: a3 :: z_i z :: ls) (z_i z :: st) w Q := z_gun ((zF300_12 875 (by decide)).trans rfl)
set_option maxRecDepth 100000 in
theorem g300_877 {d : Nat} {u : Nat × Nat} {ls st : List z_V} {w : z_W} {Q : z_P} : z_G d u 300 877 ls st w Q ↔ z_G d u 300 878 ls (z_i (1) :: st) w Q := z_gun ((zF300_12 877 (by decide)).trans rfl)
set_option maxRecDepth 100000 in
theorem g300_878 {d : Nat} {u : Nat × Nat} {ls st : List z_V} {w : z_W} {Q : z_P} {x y : Int} : z_G d u 300 878 ls (z_i y :: z_i x :: st) w Q ↔ z_G d u 300 879 ls (z_i (z_add x y) :: st) w Q := z_gun ((zF300_13 878 (by decide)).trans rfl)
set_option maxRecDepth 100000 in
theorem g300_879 {d : Nat} {u : Nat × Nat} {ls st : List z_V} {w : z_W} {Q : z_P} {p : Nat} {i : Int} : z_G d u 300 879 ls (z_i i :: z_r p :: st) w Q ↔ ((z_k w p = 100 ∨ z_k w p = 103) ∧ 0 ≤ i ∧ i < z_len w p ∧ (z_rg (z_I w p i) → z_G d u 300 880 ls (z_i (z_I w p i) :: st) w Q)) := z_gun ((zF300_13 879 (by decide)).trans rfl)
set_option maxRecDepth 100000 in
theorem g300_880 {d : Nat} {u : Nat × Nat} {ls st : List z_V} {w : z_W} {Q : z_P} {p : Nat} {x0 : Int} : z_G (d + 1) u 300 880 ls (z_i x0 :: z_r p :: st) w Q ↔ (z_k w p = 12 ∧ z_c8 st 8 = true ∧ z_G d (0, 0) 239 0 [z_r p, z_i x0] [] w (fun r w' => z_G (d + 1) u 300 883 ls (r.toList ++ st) w' Q)) := z_gcaV (d := d) (m := 300) (pc := 880) (m' := 239) (k := 2) (nL := 2) (nx := 883) (ci := 12) (p := p) (u := u) (ls := ls) (st := st) (w := w) (Q := Q) (vs := [z_r p, z_i x0]) ((zF300_13 880 (by decide)).trans rfl) rfl rfl
set_option maxRecDepth 100000 in
theorem g300_883 {d : Nat} {u : Nat × Nat} {ls st : List z_V} {w : z_W} {Q : z_P} {x : Int} : z_G d u 300 883 ls (z_i x :: st) w Q ↔ z_G d u 300 884 ls st w Q := z_gun ((zF300_13 883 (by decide)).trans rfl)
set_option maxRecDepth 100000 in
theorem g300_883r {d : Nat} {u : Nat × Nat} {ls st : List z_V} {w : z_W} {Q : z_P} {k : Nat} : z_G d u 300 883 ls (z_r k :: st) w Q ↔ z_G d u 300 884 ls st w Q := z_gun ((zF300_13 883 (by decide)).trans rfl)
set_option maxRecDepth 100000 in
theorem g300_884 {d : Nat} {u : Nat × Nat} {ls st : List z_V} {w : z_W} {Q : z_P} : z_G d u 300 884 ls st w Q ↔ z_G d u 300 1614 ls st w Q := z_gun ((zF300_13 884 (by decide)).trans rfl)
set_option maxRecDepth 100000 in
theorem g300_887 {d : Nat} {u : Nat × Nat} {ls st : List z_V} {w : z_W} {Q : z_P} {o : Option Nat} {a0 : z_V} : z_G d u 300 887 (a0 :: z_vr o :: ls) st w Q ↔ z_G d u 300 888 (a0 :: z_vr o :: ls) (z_vr o :: st) w Q := z_gun ((zF300_13 887 (by decide)).trans rfl)
set_option maxRecDepth 100000 in
theorem g300_887r {d : Nat} {u : Nat × Nat} {ls st : List z_V} {w : z_W} {Q : z_P} {k : Nat} {a0 : z_V} : z_G d u 300 887 (a0 :: z_r k :: ls) st w Q ↔ z_G d u 300 888 (a0 :: z_r k :: ls) (z_r k :: st) w Q := z_gun ((zF300_13 887 (by decide)).trans rfl)
set_option maxRecDepth 100000 in
theorem g300_888 {d : Nat} {u : Nat × Nat} {ls st : List z_V} {w : z_W} {Q : z_P} {o : Option Nat} : z_G d u 300 888 (z_vr o :: ls) st w Q ↔ z_G d u 300 889 (z_vr o :: ls) (z_vr o :: st) w Q := z_gun ((zF300_13 888 (by decide)).trans rfl)
set_option maxRecDepth 100000 in
theorem g300_888r {d : Nat} {u : Nat × Nat} {ls st : List z_V} {w : z_W} {Q : z_P} {k : Nat} : z_G d u 300 888 (z_r k :: ls) st w Q ↔ z_G d u 300 889 (z_r k :: ls) (z_r k :: st) w Q := z_gun ((zF300_13 888 (by decide)).trans rfl)
set_option maxRecDepth 100000 in
theorem g300_889 {d : Nat} {u : Nat × Nat} {ls st : List z_V} {w : z_W} {Q : z_P} {z : Int} {a0 a1 a2 a3 : z_V} : z_G d u 300 889 (a0 :: a1 :: a2 :: a3 :: z_i z :: ls) st w Q ↔ z_G d u 300 891 (a0 :: a1 :: a2 :: a3 :: z_i z :: ls) (z_i z :: st) w Q := z_gun ((zF300_13 889 (by decide)).trans rfl)
set_option maxRecDepth 100000 in
theorem g300_891 {d : Nat} {u : Nat × Nat} {ls st : List z_V} {w : z_W} {Q : z_P} : z_G d u 300 891 ls st w Q ↔ z_G d u 300 892 ls (z_i (1) :: st) w Q := z_gun ((zF300_13 891 (by decide)).trans rfl)
set_option maxRecDepth 100000 in
theorem g300_892 {d : Nat} {u : Nat × Nat} {ls st : List z_V} {w : z_W} {Q : z_P} {x y : Int} : z_G d u 300 892 ls (z_i y :: z_i x :: st) w Q ↔ z_G d u 300 893 ls (z_i (z_add x y) :: st) w Q := z_gun ((zF300_13 892 (by decide)).trans rfl)
set_option maxRecDepth 100000 in
theorem g300_893 {d : Nat} {u : Nat × Nat} {ls st : List z_V} {w : z_W} {Q : z_P} {p : Nat} {i : Int} : z_G d u 300 893 ls (z_i i :: z_r p :: st) w Q ↔ ((z_k w p = 100 ∨ z_k w p = 103) ∧ 0 ≤ i ∧ i < z_len w p ∧ (z_rg (z_I w p i) → z_G d u 300 894 ls (z_i (z_I w p i) :: st) w Q)) := z_gun ((zF300_13 893 (by decide)).trans rfl)
set_option maxRecDepth 100000 in
theorem g300_894 {d : Nat} {u : Nat × Nat} {ls st : List z_V} {w : z_W} {Q : z_P} {o : Option Nat} : z_G d u 300 894 (z_vr o :: ls) st w Q ↔ z_G d u 300 895 (z_vr o :: ls) (z_vr o :: st) w Q := z_gun ((zF300_13 894 (by decide)).trans rfl)
set_option maxRecDepth 100000 in
theorem g300_894r {d : Nat} {u : Nat × Nat} {ls st : List z_V} {w : z_W} {Q : z_P} {k : Nat} : z_G d u 300 894 (z_r k :: ls) st w Q ↔ z_G d u 300 895 (z_r k :: ls) (z_r k :: st) w Q := z_gun ((zF300_13 894 (by decide)).trans rfl)
set_option maxRecDepth 100000 in
theorem g300_895 {d : Nat} {u : Nat × Nat} {ls st : List z_V} {w : z_W} {Q : z_P} {z : Int} {a0 a1 a2 a3 : z_V} : z_G d u 300 895 (a0 :: a1 :: a2 :: a3 :: z_i z :: ls) st w Q ↔ z_G d u 300 897 (a0 :: a1 :: a2 :: a3 :: z_i z :: ls) (z_i z :: st) w Q := z_gun ((zF300_13 895 (by decide)).trans rfl)
set_option maxRecDepth 100000 in
theorem g300_897 {d : Nat} {u : Nat × Nat} {ls st : List z_V} {w : z_W} {Q : z_P} : z_G d u 300 897 ls st w Q ↔ z_G d u 300 898 ls (z_i (2) :: st) w Q := z_gun ((zF300_13 897 (by decide)).trans rfl)
set_option maxRecDepth 100000 in
theorem g300_898 {d : Nat} {u : Nat × Nat} {ls st : List z_V} {w : z_W} {Q : z_P} {x y : Int} : z_G d u 300 898 ls (z_i y :: z_i x :: st) w Q ↔ z_G d u 300 899 ls (z_i (z_add x y) :: st) w Q := z_gun ((zF300_13 898 (by decide)).trans rfl)
set_option maxRecDepth 100000 in
theorem g300_899 {d : Nat} {u : Nat × Nat} {ls st : List z_V} {w : z_W} {Q : z_P} {p : Nat} {i : Int} : z_G d u 300 899 ls (z_i i :: z_r p :: st) w Q ↔ ((z_k w p = 100 ∨ z_k w p = 103) ∧ 0 ≤ i ∧ i < z_len w p ∧ (z_rg (z_I w p i) → z_G d u 300 900 ls (z_i (z_I w p i) :: st) w Q)) := z_gun ((zF300_13 899 (by decide)).trans rfl)
set_option maxRecDepth 100000 in
theorem g300_900 {d : Nat} {u : Nat × Nat} {ls st : List z_V} {w : z_W} {Q : z_P} {p : Nat} {x0 x1 : Int} : z_G (d + 1) u 300 900 ls (z_i x1 :: z_i x0 :: z_r p :: st) w Q ↔ (z_k w p = 11 ∧ z_c8 st 8 = true ∧ z_G d (0, 0) 139 0 [z_r p, z_i x0, z_i x1] [] w (fun r w' => z_G (d + 1) u 300 903 ls (r.toList ++ st) w' Q)) := z_gcaV (d := d) (m := 300) (pc := 900) (m' := 139) (k := 3) (nL := 3) (nx := 903) (ci := 11) (p := p) (u := u) (ls := ls) (st := st) (w := w) (Q := Q) (vs := [z_r p, z_i x0, z_i x1]) ((zF300_13 900 (by decide)).trans rfl) rfl rfl
set_option maxRecDepth 100000 in
theorem g300_903 {d : Nat} {u : Nat × Nat} {ls st : List z_V} {w : z_W} {Q : z_P} {x : Int} : z_G d u 300 903 ls (z_i x :: st) w Q ↔ z_G d u 300 904 ls st w Q := z_gun ((zF300_13 903 (by decide)).trans rfl)
set_option maxRecDepth 100000 in
theorem g300_903r {d : Nat} {u : Nat × Nat} {ls st : List z_V} {w : z_W} {Q : z_P} {k : Nat} : z_G d u 300 903 ls (z_r k :: st) w Q ↔ z_G d u 300 904 ls st w Q := z_gun ((zF300_13 903 (by decide)).trans rfl)
set_option maxRecDepth 100000 in
theorem g300_904 {d : Nat} {u : Nat × Nat} {ls st : List z_V} {w : z_W} {Q : z_P} {o : Option Nat} {a0 a1 : z_V} : z_G d u 300 904 (a0 :: a1 :: z_vr o :: ls) st w Q ↔ z_G d u 300 905 (a0 :: a1 :: z_vr o :: ls) (z_vr o :: st) w Q := z_gun ((zF300_13 904 (by decide)).trans rfl)
set_option maxRecDepth 100000 in
theorem g300_904r {d : Nat} {u : Nat × Nat} {ls st : List z_V} {w : z_W} {Q : z_P} {k : Nat} {a0 a1 : z_V} : z_G d u 300 904 (a0 :: a1 :: z_r k :: ls) st w Q ↔ z_G d u 300 905 (a0 :: a1 :: z_r k :: ls) (z_r k :: st) w Q := z_gun ((zF300_13 904 (by decide)).trans rfl)
set_option maxRecDepth 100000 in
theorem g300_905 {d : Nat} {u : Nat × Nat} {ls st : List z_V} {w : z_W} {Q : z_P} {o : Option Nat} : z_G d u 300 905 (z_vr o :: ls) st w Q ↔ z_G d u 300 906 (z_vr o :: ls) (z_vr o :: st) w Q := z_gun ((zF300_13 905 (by decide)).trans rfl)
set_option maxRecDepth 100000 in
theorem g300_905r {d : Nat} {u : Nat × Nat} {ls st : List z_V} {w : z_W} {Q : z_P} {k : Nat} : z_G d u 300 905 (z_r k :: ls) st w Q ↔ z_G d u 300 906 (z_r k :: ls) (z_r k :: st) w Q := z_gun ((zF300_13 905 (by decide)).trans rfl)
set_option maxRecDepth 100000 in
theorem g300_906 {d : Nat} {u : Nat × Nat} {ls st : List z_V} {w : z_W} {Q : z_P} {z : Int} {a0 a1 a2 a3 : z_V} : z_G d u 300 906 (a0 :: a1 :: a2 :: a3 :: z_i z :: ls) st w Q ↔ z_G d u 300 908 (a0 :: a1 :: a2 :: a3 :: z_i z :: ls) (z_i z :: st) w Q := z_gun ((zF300_13 906 (by decide)).trans rfl)
set_option maxRecDepth 100000 in
theorem g300_908 {d : Nat} {u : Nat × Nat} {ls st : List z_V} {w : z_W} {Q : z_P} : z_G d u 300 908 ls st w Q ↔ z_G d u 300 909 ls (z_i (1) :: st) w Q := z_gun ((zF300_13 908 (by decide)).trans rfl)
set_option maxRecDepth 100000 in
theorem g300_909 {d : Nat} {u : Nat × Nat} {ls st : List z_V} {w : z_W} {Q : z_P} {x y : Int} : z_G d u 300 909 ls (z_i y :: z_i x :: st) w Q ↔ z_G d u 300 910 ls (z_i (z_add x y) :: st) w Q := z_gun ((zF300_13 909 (by decide)).trans rfl)
set_option maxRecDepth 100000 in
theorem g300_910 {d : Nat} {u : Nat × Nat} {ls st : List z_V} {w : z_W} {Q : z_P} {p : Nat} {i : Int} : z_G d u 300 910 ls (z_i i :: z_r p :: st) w Q ↔ ((z_k w p = 100 ∨ z_k w p = 103) ∧ 0 ≤ i ∧ i < z_len w p ∧ (z_rg (z_I w p i) → z_G d u 300 911 ls (z_i (z_I w p i) :: st) w Q)) := z_gun ((zF300_13 910 (by decide)).trans rfl)
set_option maxRecDepth 100000 in
theorem g300_911 {d : Nat} {u : Nat × Nat} {ls st : List z_V} {w : z_W} {Q : z_P} {o : Option Nat} : z_G d u 300 911 (z_vr o :: ls) st w Q ↔ z_G d u 300 912 (z_vr o :: ls) (z_vr o :: st) w Q := z_gun ((zF300_13 911 (by decide)).trans rfl)
set_option maxRecDepth 100000 in
theorem g300_911r {d : Nat} {u : Nat × Nat} {ls st : List z_V} {w : z_W} {Q : z_P} {k : Nat} : z_G d u 300 911 (z_r k :: ls) st w Q ↔ z_G d u 300 912 (z_r k :: ls) (z_r k :: st) w Q := z_gun ((zF300_13 911 (by decide)).trans rfl)
set_option maxRecDepth 100000 in
theorem g300_912 {d : Nat} {u : Nat × Nat} {ls st : List z_V} {w : z_W} {Q : z_P} {z : Int} {a0 a1 a2 a3 : z_V} : z_G d u 300 912 (a0 :: a1 :: a2 :: a3 :: z_i z :: ls) st w Q ↔ z_G d u 300 914 (a0 :: a1 :: a2 :: a3 :: z_i z :: ls) (z_i z :: st) w Q := z_gun ((zF300_13 912 (by decide)).trans rfl)
set_option maxRecDepth 100000 in
theorem g300_914 {d : Nat} {u : Nat × Nat} {ls st : List z_V} {w : z_W} {Q : z_P} : z_G d u 300 914 ls st w Q ↔ z_G d u 300 915 ls (z_i (2) :: st) w Q := z_gun ((zF300_13 914 (by decide)).trans rfl)
set_option maxRecDepth 100000 in
theorem g300_915 {d : Nat} {u : Nat × Nat} {ls st : List z_V} {w : z_W} {Q : z_P} {x y : Int} : z_G d u 300 915 ls (z_i y :: z_i x :: st) w Q ↔ z_G d u 300 916 ls (z_i (z_add x y) :: st) w Q := z_gun ((zF300_13 915 (by decide)).trans rfl)
set_option maxRecDepth 100000 in
theorem g300_916 {d : Nat} {u : Nat × Nat} {ls st : List z_V} {w : z_W} {Q : z_P} {p : Nat} {i : Int} : z_G d u 300 916 ls (z_i i :: z_r p :: st) w Q ↔ ((z_k w p = 100 ∨ z_k w p = 103) ∧ 0 ≤ i ∧ i < z_len w p ∧ (z_rg (z_I w p i) → z_G d u 300 917 ls (z_i (z_I w p i) :: st) w Q)) := z_gun ((zF300_13 916 (by decide)).trans rfl)
set_option maxRecDepth 100000 in
theorem g300_917 {d : Nat} {u : Nat × Nat} {ls st : List z_V} {w : z_W} {Q : z_P} {p : Nat} {x0 x1 : Int} : z_G (d + 1) u 300 917 ls (z_i x1 :: z_i x0 :: z_r p :: st) w Q ↔ (z_k w p = 12 ∧ z_c8 st 8 = true ∧ z_G d (0, 0) 240 0 [z_r p, z_i x0, z_i x1] [] w (fun r w' => z_G (d + 1) u 300 920 ls (r.toList ++ st) w' Q)) := z_gcaV (d := d) (m := 300) (pc := 917) (m' := 240) (k := 3) (nL := 3) (nx := 920) (ci := 12) (p := p) (u := u) (ls := ls) (st := st) (w := w) (Q := Q) (vs := [z_r p, z_i x0, z_i x1]) ((zF300_13 917 (by decide)).trans rfl) rfl rfl
set_option maxRecDepth 100000 in
theorem g300_920 {d : Nat} {u : Nat × Nat} {ls st : List z_V} {w : z_W} {Q : z_P} {x : Int} : z_G d u 300 920 ls (z_i x :: st) w Q ↔ z_G d u 300 921 ls st w Q := z_gun ((zF300_13 920 (by decide)).trans rfl)
set_option maxRecDepth 100000 in
theorem g300_920r {d : Nat} {u : Nat × Nat} {ls st : List z_V} {w : z_W} {Q : z_P} {k : Nat} : z_G d u 300 920 ls (z_r k :: st) w Q ↔ z_G d u 300 921 ls st w Q := z_gun ((zF300_13 920 (by decide)).trans rfl)
set_option maxRecDepth 100000 in
theorem g300_921 {d : Nat} {u : Nat × Nat} {ls st : List z_V} {w : z_W} {Q : z_P} : z_G d u 300 921 ls st w Q ↔ z_G d u 300 1614 ls st w Q := z_gun ((zF300_13 921 (by decide)).trans rfl)
set_option maxRecDepth 100000 in
theorem g300_924 {d : Nat} {u : Nat × Nat} {ls st : List z_V} {w : z_W} {Q : z_P} {o : Option Nat} {a0 : z_V} : z_G d u 300 924 (a0 :: z_vr o :: ls) st w Q ↔ z_G d u 300 925 (a0 :: z_vr o :: ls) (z_vr o :: st) w Q := z_gun ((zF300_13 924 (by decide)).trans rfl)
set_option maxRecDepth 100000 in
theorem g300_924r {d : Nat} {u : Nat × Nat} {ls st : List z_V} {w : z_W} {Q : z_P} {k : Nat} {a0 : z_V} : z_G d u 300 924 (a0 :: z_r k :: ls) st w Q ↔ z_G d u 300 925 (a0 :: z_r k :: ls) (z_r k :: st) w Q := z_gun ((zF300_13 924 (by decide)).trans rfl)
set_option maxRecDepth 100000 in
theorem g300_925 {d : Nat} {u : Nat × Nat} {ls st : List z_V} {w : z_W} {Q : z_P} {o : Option Nat} : z_G d u 300 925 (z_vr o :: ls) st w Q ↔ z_G d u 300 926 (z_vr o :: ls) (z_vr o :: st) w Q := z_gun ((zF300_13 925 (by decide)).trans rfl)
set_option maxRecDepth 100000 in
theorem g300_925r {d : Nat} {u : Nat × Nat} {ls st : List z_V} {w : z_W} {Q : z_P} {k : Nat} : z_G d u 300 925 (z_r k :: ls) st w Q ↔ z_G d u 300 926 (z_r k :: ls) (z_r k :: st) w Q := z_gun ((zF300_13 925 (by decide)).trans rfl)
set_option maxRecDepth 100000 in
theorem g300_926 {d : Nat} {u : Nat × Nat} {ls st : List z_V} {w : z_W} {Q : z_P} {z : Int} {a0 a1 a2 a3 : z_V} : z_G d u 300 926 (a0 :: a1 :: a2 :: a3 :: z_i z :: ls) st w Q ↔ z_G d u 300 928 (a0 :: a1 :: a2 :: a3 :: z_i z :: ls) (z_i z :: st) w Q := z_gun ((zF300_13 926 (by decide)).trans rfl)
set_option maxRecDepth 100000 in
theorem g300_928 {d : Nat} {u : Nat × Nat} {ls st : List z_V} {w : z_W} {Q : z_P} : z_G d u 300 928 ls st w Q ↔ z_G d u 300 929 ls (z_i (1) :: st) w Q := z_gun ((zF300_13 928 (by decide)).trans rfl)
set_option maxRecDepth 100000 in
theorem g300_929 {d : Nat} {u : Nat × Nat} {ls st : List z_V} {w : z_W} {Q : z_P} {x y : Int} : z_G d u 300 929 ls (z_i y :: z_i x :: st) w Q ↔ z_G d u 300 930 ls (z_i (z_add x y) :: st) w Q := z_gun ((zF300_13 929 (by decide)).trans rfl)
set_option maxRecDepth 100000 in
theorem g300_930 {d : Nat} {u : Nat × Nat} {ls st : List z_V} {w : z_W} {Q : z_P} {p : Nat} {i : Int} : z_G d u 300 930 ls (z_i i :: z_r p :: st) w Q ↔ ((z_k w p = 100 ∨ z_k w p = 103) ∧ 0 ≤ i ∧ i < z_len w p ∧ (z_rg (z_I w p i) → z_G d u 300 931 ls (z_i (z_I w p i) :: st) w Q)) := z_gun ((zF300_13 930 (by decide)).trans rfl)
set_option maxRecDepth 100000 in
theorem g300_931 {d : Nat} {u : Nat × Nat} {ls st : List z_V} {w : z_W} {Q : z_P} {o : Option Nat} : z_G d u 300 931 (z_vr o :: ls) st w Q ↔ z_G d u 300 932 (z_vr o :: ls) (z_vr o :: st) w Q := z_gun ((zF300_13 931 (by decide)).trans rfl)
set_option maxRecDepth 100000 in
theorem g300_931r {d : Nat} {u : Nat × Nat} {ls st : List z_V} {w : z_W} {Q : z_P} {k : Nat} : z_G d u 300 931 (z_r k :: ls) st w Q ↔ z_G d u 300 932 (z_r k :: ls) (z_r k :: st) w Q := z_gun ((zF300_13 931 (by decide)).trans rfl)
set_option maxRecDepth 100000 in
theorem g300_932 {d : Nat} {u : Nat × Nat} {ls st : List z_V} {w : z_W} {Q : z_P} {z : Int} {a0 a1 a2 a3 : z_V} : z_G d u 300 932 (a0 :: a1 :: a2 :: a3 :: z_i z :: ls) st w Q ↔ z_G d u 300 934 (a0 :: a1 :: a2 :: a3 :: z_i z :: ls) (z_i z :: st) w Q := z_gun ((zF300_13 932 (by decide)).trans rfl)
set_option maxRecDepth 100000 in
theorem g300_934 {d : Nat} {u : Nat × Nat} {ls st : List z_V} {w : z_W} {Q : z_P} : z_G d u 300 934 ls st w Q ↔ z_G d u 300 935 ls (z_i (2) :: st) w Q := z_gun ((zF300_14 934 (by decide)).trans rfl)
set_option maxRecDepth 100000 in
theorem g300_935 {d : Nat} {u : Nat × Nat} {ls st : List z_V} {w : z_W} {Q : z_P} {x y : Int} : z_G d u 300 935 ls (z_i y :: z_i x :: st) w Q ↔ z_G d u 300 936 ls (z_i (z_add x y) :: st) w Q := z_gun ((zF300_14 935 (by decide)).trans rfl)
set_option maxRecDepth 100000 in
theorem g300_936 {d : Nat} {u : Nat × Nat} {ls st : List z_V} {w : z_W} {Q : z_P} {p : Nat} {i : Int} : z_G d u 300 936 ls (z_i i :: z_r p :: st) w Q ↔ ((z_k w p = 100 ∨ z_k w p = 103) ∧ 0 ≤ i ∧ i < z_len w p ∧ (z_rg (z_I w p i) → z_G d u 300 937 ls (z_i (z_I w p i) :: st) w Q)) := z_gun ((zF300_14 936 (by decide)).trans rfl)
set_option maxRecDepth 100000 in
theorem g300_937 {d : Nat} {u : Nat × Nat} {ls st : List z_V} {w : z_W} {Q : z_P} {p : Nat} {x0 x1 : Int} : z_G (d + 1) u 300 937 ls (z_i x1 :: z_i x0 :: z_r p :: st) w Q ↔ (z_k w p = 11 ∧ z_c8 st 8 = true ∧ z_G d (0, 0) 140 0 [z_r p, z_i x0, z_i x1] [] w (fun r w' => z_G (d + 1) u 300 940 ls (r.toList ++ st) w' Q)) := z_gcaV (d := d) (m := 300) (pc := 937) (m' := 140) (k := 3) (nL := 3) (nx := 940) (ci := 11) (p := p) (u := u) (ls := ls) (st := st) (w := w) (Q := Q) (vs := [z_r p, z_i x0, z_i x1]) ((zF300_14 937 (by decide)).trans rfl) rfl rfl
set_option maxRecDepth 100000 in
theorem g300_940 {d : Nat} {u : Nat × Nat} {ls st : List z_V} {w : z_W} {Q : z_P} {x : Int} : z_G d u 300 940 ls (z_i x :: st) w Q ↔ z_G d u 300 941 ls st w Q := z_gun ((zF300_14 940 (by decide)).trans rfl)
set_option maxRecDepth 100000 in
theorem g300_940r {d : Nat} {u : Nat × Nat} {ls st : List z_V} {w : z_W} {Q : z_P} {k : Nat} : z_G d u 300 940 ls (z_r k :: st) w Q ↔ z_G d u 300 941 ls st w Q := z_gun ((zF300_14 940 (by decide)).trans rfl)
set_option maxRecDepth 100000 in
theorem g300_941 {d : Nat} {u : Nat × Nat} {ls st : List z_V} {w : z_W} {Q : z_P} {o : Option Nat} {a0 a1 : z_V} : z_G d u 300 941 (a0 :: a1 :: z_vr o :: ls) st w Q ↔ z_G d u 300 942 (a0 :: a1 :: z_vr o :: ls) (z_vr o :: st) w Q := z_gun ((zF300_14 941 (by decide)).trans rfl)
set_option maxRecDepth 100000 in
theorem g300_941r {d : Nat} {u : Nat × Nat} {ls st : List z_V} {w : z_W} {Q : z_P} {k : Nat} {a0 a1 : z_V} : z_G d u 300 941 (a0 :: a1 :: z_r k :: ls) st w Q ↔ z_G d u 300 942 (a0 :: a1 :: z_r k :: ls) (z_r k :: st) w Q := z_gun ((zF300_14 941 (by decide)).trans rfl)
set_option maxRecDepth 100000 in
theorem g300_942 {d : Nat} {u : Nat × Nat} {ls st : List z_V} {w : z_W} {Q : z_P} {o : Option Nat} : z_G d u 300 942 (z_vr o :: ls) st w Q ↔ z_G d u 300 943 (z_vr o :: ls) (z_vr o :: st) w Q := z_gun ((zF300_14 942 (by decide)).trans rfl)
set_option maxRecDepth 100000 in
theorem g300_942r {d : Nat} {u : Nat × Nat} {ls st : List z_V} {w : z_W} {Q : z_P} {k : Nat} : z_G d u 300 942 (z_r k :: ls) st w Q ↔ z_G d u 300 943 (z_r k :: ls) (z_r k :: st) w Q := z_gun ((zF300_14 942 (by decide)).trans rfl)
set_option maxRecDepth 100000 in
theorem g300_943 {d : Nat} {u : Nat × Nat} {ls st : List z_V} {w : z_W} {Q : z_P} {z : Int} {a0 a1 a2 a3 : z_V} : z_G d u 300 943 (a0 :: a1 :: a2 :: a3 :: z_i z :: ls) st w Q ↔ z_G d u 300 945 (a0 :: a1 :: a2 :: a3 :: z_i z :: ls) (z_i z :: st) w Q := z_gun ((zF300_14 943 (by decide)).trans rfl)
set_option maxRecDepth 100000 in
theorem g300_945 {d : Nat} {u : Nat × Nat} {ls st : List z_V} {w : z_W} {Q : z_P} : z_G d u 300 945 ls st w Q ↔ z_G d u 300 946 ls (z_i (1) :: st) w Q := z_gun ((zF300_14 945 (by decide)).trans rfl)
set_option maxRecDepth 100000 in
theorem g300_946 {d : Nat} {u : Nat × Nat} {ls st : List z_V} {w : z_W} {Q : z_P} {x y : Int} : z_G d u 300 946 ls (z_i y :: z_i x :: st) w Q ↔ z_G d u 300 947 ls (z_i (z_add x y) :: st) w Q := z_gun ((zF300_14 946 (by decide)).trans rfl)
set_option maxRecDepth 100000 in
theorem g300_947 {d : Nat} {u : Nat × Nat} {ls st : List z_V} {w : z_W} {Q : z_P} {p : Nat} {i : Int} : z_G d u 300 947 ls (z_i i :: z_r p :: st) w Q ↔ ((z_k w p = 100 ∨ z_k w p = 103) ∧ 0 ≤ i ∧ i < z_len w p ∧ (z_rg (z_I w p i) → z_G d u 300 948 ls (z_i (z_I w p i) :: st) w Q)) := z_gun ((zF300_14 947 (by decide)).trans rfl)
set_option maxRecDepth 100000 in
theorem g300_948 {d : Nat} {u : Nat × Nat} {ls st : List z_V} {w : z_W} {Q : z_P} {o : Option Nat} : z_G d u 300 948 (z_vr o :: ls) st w Q ↔ z_G d u 300 949 (z_vr o :: ls) (z_vr o :: st) w Q := z_gun ((zF300_14 948 (by decide)).trans rfl)
set_option maxRecDepth 100000 in
theorem g300_948r {d : Nat} {u : Nat × Nat} {ls st : List z_V} {w : z_W} {Q : z_P} {k : Nat} : z_G d u 300 948 (z_r k :: ls) st w Q ↔ z_G d u 300 949 (z_r k :: ls) (z_r k :: st) w Q := z_gun ((zF300_14 948 (by decide)).trans rfl)
set_option maxRecDepth 100000 in
theorem g300_949 {d : Nat} {u : Nat × Nat} {ls st : List z_V} {w : z_W} {Q : z_P} {z : Int} {a0 a1 a2 a3 : z_V} : z_G d u 300 949 (a0 :: a1 :: a2 :: a3 :: z_i z :: ls) st w Q ↔ z_G d u 300 951 (a0 :: a1 :: a2 :: a3 :: z_i z :: ls) (z_i z :: st) w Q := z_gun ((zF300_14 949 (by decide)).trans rfl)
set_option maxRecDepth 100000 in
theorem g300_951 {d : Nat} {u : Nat × Nat} {ls st : List z_V} {w : z_W} {Q : z_P} : z_G d u 300 951 ls st w Q ↔ z_G d u 300 952 ls (z_i (2) :: st) w Q := z_gun ((zF300_14 951 (by decide)).trans rfl)
set_option maxRecDepth 100000 in
theorem g300_952 {d : Nat} {u : Nat × Nat} {ls st : List z_V} {w : z_W} {Q : z_P} {x y : Int} : z_G d u 300 952 ls (z_i y :: z_i x :: st) w Q ↔ z_G d u 300 953 ls (z_i (z_add x y) :: st) w Q := z_gun ((zF300_14 952 (by decide)).trans rfl)
set_option maxRecDepth 100000 in
theorem g300_953 {d : Nat} {u : Nat × Nat} {ls st : List z_V} {w : z_W} {Q : z_P} {p : Nat} {i : Int} : z_G d u 300 953 ls (z_i i :: z_r p :: st) w Q ↔ ((z_k w p = 100 ∨ z_k w p = 103) ∧ 0 ≤ i ∧ i < z_len w p ∧ (z_rg (z_I w p i) → z_G d u 300 954 ls (z_i (z_I w p i) :: st) w Q)) := z_gun ((zF300_14 953 (by decide)).trans rfl)
set_option maxRecDepth 100000 in
theorem g300_954 {d : Nat} {u : Nat × Nat} {ls st : List z_V} {w : z_W} {Q : z_P} {p : Nat} {x0 x1 : Int} : z_G (d + 1) u 300 954 ls (z_i x1 :: z_i x0 :: z_r p :: st) w Q ↔ (z_k w p = 12 ∧ z_c8 st 8 = true ∧ z_G d (0, 0) 241 0 [z_r p, z_i x0, z_i x1] [] w (fun r w' => z_G (d + 1) u 300 957 ls (r.toList ++ st) w' Q)) := z_gcaV (d := d) (m := 300) (pc := 954) (m' := 241) (k := 3) (nL := 3) (nx := 957) (ci := 12) (p := p) (u := u) (ls := ls) (st := st) (w := w) (Q := Q) (vs := [z_r p, z_i x0, z_i x1]) ((zF300_14 954 (by decide)).trans rfl) rfl rfl
set_option maxRecDepth 100000 in
theorem g300_957 {d : Nat} {u : Nat × Nat} {ls st : List z_V} {w : z_W} {Q : z_P} {x : Int} : z_G d u 300 957 ls (z_i x :: st) w Q ↔ z_G d u 300 958 ls st w Q := z_gun ((zF300_14 957 (by decide)).trans rfl)
set_option maxRecDepth 100000 in
theorem g300_957r {d : Nat} {u : Nat × Nat} {ls st : List z_V} {w : z_W} {Q : z_P} {k : Nat} : z_G d u 300 957 ls (z_r k :: st) w Q ↔ z_G d u 300 958 ls st w Q := z_gun ((zF300_14 957 (by decide)).trans rfl)
set_option maxRecDepth 100000 in
theorem g300_958 {d : Nat} {u : Nat × Nat} {ls st : List z_V} {w : z_W} {Q : z_P} : z_G d u 300 958 ls st w Q ↔ z_G d u 300 1614 ls st w Q := z_gun ((zF300_14 958 (by decide)).trans rfl)
set_option maxRecDepth 100000 in
theorem g300_961 {d : Nat} {u : Nat × Nat} {ls st : List z_V} {w : z_W} {Q : z_P} {o : Option Nat} {a0 : z_V} : z_G d u 300 961 (a0 :: z_vr o :: ls) st w Q ↔ z_G d u 300 962 (a0 :: z_vr o :: ls) (z_vr o :: st) w Q := z_gun ((zF300_14 961 (by decide)).trans rfl)
set_option maxRecDepth 100000 in
theorem g300_961r {d : Nat} {u : Nat × Nat} {ls st : List z_V} {w : z_W} {Q : z_P} {k : Nat} {a0 : z_V} : z_G d u 300 961 (a0 :: z_r k :: ls) st w Q ↔ z_G d u 300 962 (a0 :: z_r k :: ls) (z_r k :: st) w Q := z_gun ((zF300_14 961 (by decide)).trans rfl)
set_option maxRecDepth 100000 in
theorem g300_962 {d : Nat} {u : Nat × Nat} {ls st : List z_V} {w : z_W} {Q : z_P} {o : Option Nat} : z_G d u 300 962 (z_vr o :: ls) st w Q ↔ z_G d u 300 963 (z_vr o :: ls) (z_vr o :: st) w Q := z_gun ((zF300_14 962 (by decide)).trans rfl)
set_option maxRecDepth 100000 in
theorem g300_962r {d : Nat} {u : Nat × Nat} {ls st : List z_V} {w : z_W} {Q : z_P} {k : Nat} : z_G d u 300 962 (z_r k :: ls) st w Q ↔ z_G d u 300 963 (z_r k :: ls) (z_r k :: st) w Q := z_gun ((zF300_14 962 (by decide)).trans rfl)
set_option maxRecDepth 100000 in
theorem g300_963 {d : Nat} {u : Nat × Nat} {ls st : List z_V} {w : z_W} {Q : z_P} {z : Int} {a0 a1 a2 a3 : z_V} : z_G d u 300 963 (a0 :: a1 :: a2 :: a3 :: z_i z :: ls) st w Q ↔ z_G d u 300 965 (a0 :: a1 :: a2 :: a3 :: z_i z :: ls) (z_i z :: st) w Q := z_gun ((zF300_14 963 (by decide)).trans rfl)
set_option maxRecDepth 100000 in
theorem g300_965 {d : Nat} {u : Nat × Nat} {ls st : List z_V} {w : z_W} {Q : z_P} : z_G d u 300 965 ls st w Q ↔ z_G d u 300 966 ls (z_i (1) :: st) w Q := z_gun ((zF300_14 965 (by decide)).trans rfl)
set_option maxRecDepth 100000 in
theorem g300_966 {d : Nat} {u : Nat × Nat} {ls st : List z_V} {w : z_W} {Q : z_P} {x y : Int} : z_G d u 300 966 ls (z_i y :: z_i x :: st) w Q ↔ z_G d u 300 967 ls (z_i (z_add x y) :: st) w Q := z_gun ((zF300_14 966 (by decide)).trans rfl)
set_option maxRecDepth 100000 in
theorem g300_967 {d : Nat} {u : Nat × Nat} {ls st : List z_V} {w : z_W} {Q : z_P} {p : Nat} {i : Int} : z_G d u 300 967 ls (z_i i :: z_r p :: st) w Q ↔ ((z_k w p = 100 ∨ z_k w p = 103) ∧ 0 ≤ i ∧ i < z_len w p ∧ (z_rg (z_I w p i) → z_G d u 300 968 ls (z_i (z_I w p i) :: st) w Q)) := z_gun ((zF300_14 967 (by decide)).trans rfl)
set_option maxRecDepth 100000 in
theorem g300_968 {d : Nat} {u : Nat × Nat} {ls st : List z_V} {w : z_W} {Q : z_P} {o : Option Nat} : z_G d u 300 968 (z_vr o :: ls) st w Q ↔ z_G d u 300 969 (z_vr o :: ls) (z_vr o :: st) w Q := z_gun ((zF300_14 968 (by decide)).trans rfl)
set_option maxRecDepth 100000 in
theorem g300_968r {d : Nat} {u : Nat × Nat} {ls st : List z_V} {w : z_W} {Q : z_P} {k : Nat} : z_G d u 300 968 (z_r k :: ls) st w Q ↔ z_G d u 300 969 (z_r k :: ls) (z_r k :: st) w Q := z_gun ((zF300_14 968 (by decide)).trans rfl)
set_option maxRecDepth 100000 in
theorem g300_969 {d : Nat} {u : Nat × Nat} {ls st : List z_V} {w : z_W} {Q : z_P} {z : Int} {a0 a1 a2 a3 : z_V} : z_G d u 300 969 (a0 :: a1 :: a2 :: a3 :: z_i z :: ls) st w Q ↔ z_G d u 300 971 (a0 :: a1 :: a2 :: a3 :: z_i z :: ls) (z_i z :: st) w Q := z_gun ((zF300_14 969 (by decide)).trans rfl)
set_option maxRecDepth 100000 in
theorem g300_971 {d : Nat} {u : Nat × Nat} {ls st : List z_V} {w : z_W} {Q : z_P} : z_G d u 300 971 ls st w Q ↔ z_G d u 300 972 ls (z_i (2) :: st) w Q := z_gun ((zF300_14 971 (by decide)).trans rfl)
set_option maxRecDepth 100000 in
theorem g300_972 {d : Nat} {u : Nat × Nat} {ls st : List z_V} {w : z_W} {Q : z_P} {x y : Int} : z_G d u 300 972 ls (z_i y :: z_i x :: st) w Q ↔ z_G d u 300 973 ls (z_i (z_add x y) :: st) w Q := z_gun ((zF300_14 972 (by decide)).trans rfl)
set_option maxRecDepth 100000 in
theorem g300_973 {d : Nat} {u : Nat × Nat} {ls st : List z_V} {w : z_W} {Q : z_P} {p : Nat} {i : Int} : z_G d u 300 973 ls (z_i i :: z_r p :: st) w Q ↔ ((z_k w p = 100 ∨ z_k w p = 103) ∧ 0 ≤ i ∧ i < z_len w p ∧ (z_rg (z_I w p i) → z_G d u 300 974 ls (z_i (z_I w p i) :: st) w Q)) := z_gun ((zF300_14 973 (by decide)).trans rfl)
set_option maxRecDepth 100000 in
theorem g300_974 {d : Nat} {u : Nat × Nat} {ls st : List z_V} {w : z_W} {Q : z_P} {x : Int} : z_G d u 300 974 ls (z_i x :: st) w Q ↔ z_G d u 300 975 ls (z_l (z_i2l x) :: st) w Q := z_gun ((zF300_14 974 (by decide)).trans rfl)
set_option maxRecDepth 100000 in
theorem g300_975 {d : Nat} {u : Nat × Nat} {ls st : List z_V} {w : z_W} {Q : z_P} : z_G d u 300 975 ls st w Q ↔ z_G d u 300 977 ls (z_i (32) :: st) w Q := z_gun ((zF300_14 975 (by decide)).trans rfl)
set_option maxRecDepth 100000 in
theorem g300_977 {d : Nat} {u : Nat × Nat} {ls st : List z_V} {w : z_W} {Q : z_P} {x y : Int} : z_G d u 300 977 ls (z_i y :: z_l x :: st) w Q ↔ z_G d u 300 978 ls (z_l (z_lshl x y) :: st) w Q := z_gun ((zF300_14 977 (by decide)).trans rfl)
set_option maxRecDepth 100000 in
theorem g300_978 {d : Nat} {u : Nat × Nat} {ls st : List z_V} {w : z_W} {Q : z_P} {o : Option Nat} : z_G d u 300 978 (z_vr o :: ls) st w Q ↔ z_G d u 300 979 (z_vr o :: ls) (z_vr o :: st) w Q := z_gun ((zF300_14 978 (by decide)).trans rfl)
set_option maxRecDepth 100000 in
theorem g300_978r {d : Nat} {u : Nat × Nat} {ls st : List z_V} {w : z_W} {Q : z_P} {k : Nat} : z_G d u 300 978 (z_r k :: ls) st w Q ↔ z_G d u 300 979 (z_r k :: ls) (z_r k :: st) w Q := z_gun ((zF300_14 978 (by decide)).trans rfl)
set_option maxRecDepth 100000 in
theorem g300_979 {d : Nat} {u : Nat × Nat} {ls st : List z_V} {w : z_W} {Q : z_P} {z : Int} {a0 a1 a2 a3 : z_V} : z_G d u 300 979 (a0 :: a1 :: a2 :: a3 :: z_i z :: ls) st w Q ↔ z_G d u 300 981 (a0 :: a1 :: a2 :: a3 :: z_i z :: ls) (z_i z :: st) w Q := z_gun ((zF300_14 979 (by decide)).trans rfl)
set_option maxRecDepth 100000 in
theorem g300_981 {d : Nat} {u : Nat × Nat} {ls st : List z_V} {w : z_W} {Q : z_P} : z_G d u 300 981 ls st w Q ↔ z_G d u 300 982 ls (z_i (3) :: st) w Q := z_gun ((zF300_14 981 (by decide)).trans rfl)
set_option maxRecDepth 100000 in
theorem g300_982 {d : Nat} {u : Nat × Nat} {ls st : List z_V} {w : z_W} {Q : z_P} {x y : Int} : z_G d u 300 982 ls (z_i y :: z_i x :: st) w Q ↔ z_G d u 300 983 ls (z_i (z_add x y) :: st) w Q := z_gun ((zF300_14 982 (by decide)).trans rfl)
set_option maxRecDepth 100000 in
theorem g300_983 {d : Nat} {u : Nat × Nat} {ls st : List z_V} {w : z_W} {Q : z_P} {p : Nat} {i : Int} : z_G d u 300 983 ls (z_i i :: z_r p :: st) w Q ↔ ((z_k w p = 100 ∨ z_k w p = 103) ∧ 0 ≤ i ∧ i < z_len w p ∧ (z_rg (z_I w p i) → z_G d u 300 984 ls (z_i (z_I w p i) :: st) w Q)) := z_gun ((zF300_14 983 (by decide)).trans rfl)
set_option maxRecDepth 100000 in
theorem g300_984 {d : Nat} {u : Nat × Nat} {ls st : List z_V} {w : z_W} {Q : z_P} {x : Int} : z_G d u 300 984 ls (z_i x :: st) w Q ↔ z_G d u 300 985 ls (z_l (z_i2l x) :: st) w Q := z_gun ((zF300_14 984 (by decide)).trans rfl)
set_option maxRecDepth 100000 in
theorem g300_985 {d : Nat} {u : Nat × Nat} {ls st : List z_V} {w : z_W} {Q : z_P} : z_G d u 300 985 ls st w Q ↔ z_G d u 300 988 ls (z_l (4294967295) :: st) w Q := z_gun ((zF300_14 985 (by decide)).trans rfl)
set_option maxRecDepth 100000 in
theorem g300_988 {d : Nat} {u : Nat × Nat} {ls st : List z_V} {w : z_W} {Q : z_P} {x y : Int} : z_G d u 300 988 ls (z_l y :: z_l x :: st) w Q ↔ z_G d u 300 989 ls (z_l (z_land x y) :: st) w Q := z_gun ((zF300_15 988 (by decide)).trans rfl)
set_option maxRecDepth 100000 in
theorem g300_989 {d : Nat} {u : Nat × Nat} {ls st : List z_V} {w : z_W} {Q : z_P} {x y : Int} : z_G d u 300 989 ls (z_l y :: z_l x :: st) w Q ↔ z_G d u 300 990 ls (z_l (z_lor x y) :: st) w Q := z_gun ((zF300_15 989 (by decide)).trans rfl)
set_option maxRecDepth 100000 in
theorem g300_990 {d : Nat} {u : Nat × Nat} {ls st : List z_V} {w : z_W} {Q : z_P} {p : Nat} {x0 x1 : Int} : z_G (d + 1) u 300 990 ls (z_l x1 :: z_i x0 :: z_r p :: st) w Q ↔ (z_k w p = 11 ∧ z_c8 st 8 = true ∧ 1 ≤ u.1 ∧ 1 ≤ u.2 ∧ z_G d (1, 1) 143 0 [z_r p, z_i x0, z_l x1, z_x, z_x, z_x] [] w (fun r w' => z_G (d + 1) (u.1 - 1, u.2 - 1) 300 993 ls (r.toList ++ st) w' Q)) := z_gcbV (d := d) (m := 300) (pc := 990) (m' := 143) (k := 3) (nL := 6) (nx := 993) (b := (1, 1)) (ci := 11) (p := p) (u := u) (ls := ls) (st := st) (w := w) (Q := Q) (vs := [z_r p, z_i x0, z_l x1]) ((zF300_15 990 (by decide)).trans rfl) rfl rfl
set_option maxRecDepth 100000 in
theorem g300_993 {d : Nat} {u : Nat × Nat} {ls st : List z_V} {w : z_W} {Q : z_P} {x : Int} : z_G d u 300 993 ls (z_i x :: st) w Q ↔ z_G d u 300 994 ls st w Q := z_gun ((zF300_15 993 (by decide)).trans rfl)
set_option maxRecDepth 100000 in
theorem g300_993r {d : Nat} {u : Nat × Nat} {ls st : List z_V} {w : z_W} {Q : z_P} {k : Nat} : z_G d u 300 993 ls (z_r k :: st) w Q ↔ z_G d u 300 994 ls st w Q := z_gun ((zF300_15 993 (by decide)).trans rfl)
set_option maxRecDepth 100000 in
theorem g300_994 {d : Nat} {u : Nat × Nat} {ls st : List z_V} {w : z_W} {Q : z_P} {o : Option Nat} {a0 a1 : z_V} : z_G d u 300 994 (a0 :: a1 :: z_vr o :: ls) st w Q ↔ z_G d u 300 995 (a0 :: a1 :: z_vr o :: ls) (z_vr o :: st) w Q := z_gun ((zF300_15 994 (by decide)).trans rfl)
set_option maxRecDepth 100000 in
theorem g300_994r {d : Nat} {u : Nat × Nat} {ls st : List z_V} {w : z_W} {Q : z_P} {k : Nat} {a0 a1 : z_V} : z_G d u 300 994 (a0 :: a1 :: z_r k :: ls) st w Q ↔ z_G d u 300 995 (a0 :: a1 :: z_r k :: ls) (z_r k :: st) w Q := z_gun ((zF300_15 994 (by decide)).trans rfl)
