theorem z_b1 {p : Prop} [Decidable p] {b : Bool} (h : (decide p && b) = true) : p := of_decide_eq_true (Bool.and_eq_true_iff.mp h).1
theorem z_b2 {a b : Bool} (h : (a && b) = true) : b = true := (Bool.and_eq_true_iff.mp h).2
abbrev z_hw (i : Nat) (w : Cond) : Prop := lw_tbl[i]? = some w ∧ goodWord w = true
theorem z_inH {i : Nat} {w : Cond} (h : z_hw i w) : w ∈ z_TB := z_inT h.1 h.2
abbrev z_hc (m n : Nat) : Prop := goodWord (Cond.code (z_mY m) (z_mC m) (z_mL m) (z_mR m)) = true ∧ z_mL m ≤ 41 ∧ ((z_mY m).cls ≠ "java/lang/invoke/MethodHandle" ∧ (z_mY m).cls ≠ "java/lang/invoke/VarHandle" ∧ (parseMethodDescriptor (z_mY m).desc).map (fun d => d.parameters.length) = some n)
abbrev z_hk (i m : Nat) : Prop := lw_tbl[i]? = some (Cond.code (z_mY m) (z_mC m) (z_mL m) (z_mR m))
theorem z_hcE {m m2 n i : Nat} (h0 : z_hk i m) (h : z_hc m n) : z_ce m2 m n := ⟨z_inT h0 h.1, h.2.1, h.2.2⟩
set_option maxRecDepth 100000 in
theorem zB_0_0 : (decide (z_hc 6 3) && (decide (plainName (z_mY 6).cls = true) && (decide (z_hc 1 5) && (decide (plainName (z_mY 1).cls = true) && (decide (z_hc 2 1) && (decide (plainName (z_mY 2).cls = true) && (decide (z_hc 3 2) && (decide (plainName (z_mY 3).cls = true) && (decide (z_hc 4 2) && (decide (plainName (z_mY 4).cls = true) && (decide (z_hc 11 5) && (decide (plainName (z_mY 11).cls = true) && (decide (z_hc 167 1) && (decide (plainName (z_mY 167).cls = true) && (decide (z_hc 12 4) && (decide (plainName (z_mY 12).cls = true) && (decide (z_hw 851 (Cond.methodLink (z_mY 11).cls 31 Lib.Math.max.name)) && (decide (z_hw 621 (Cond.static Lib.Math.max.name)) && (decide (z_hw 622 (Cond.code Lib.Math.max.name Lib.Math.max.code 2 (some .int))) && (decide (z_hc 298 2) && (decide (plainName (z_mY 298).cls = true) && (decide (z_hc 19 1) && (decide (plainName (z_mY 19).cls = true) && (decide (z_hc 26 2) && (decide (plainName (z_mY 26).cls = true) && (decide (z_hc 25 1) && (decide (plainName (z_mY 25).cls = true) && (decide (z_hc 20 1) && (decide (plainName (z_mY 20).cls = true) && (decide (z_hc 21 1) && (decide (plainName (z_mY 21).cls = true) && (decide (z_hc 22 1) && (decide (plainName (z_mY 22).cls = true) && (decide (z_hc 23 1) && (decide (plainName (z_mY 23).cls = true) && (decide (z_hc 33 6) && (decide (plainName (z_mY 33).cls = true) && (decide (z_hw 617 (Cond.methodLink (z_mY 31).cls 59 Lib.Math.min.name)) && (decide (z_hw 618 (Cond.static Lib.Math.min.name)) && (decide (z_hw 619 (Cond.code Lib.Math.min.name Lib.Math.min.code 2 (some .int))) && (decide (z_hw 620 (Cond.methodLink (z_mY 31).cls 64 Lib.Math.max.name)) && (decide (z_hc 32 2) && (decide (plainName (z_mY 32).cls = true) && (decide (z_hc 31 5) && (decide (plainName (z_mY 31).cls = true) && (decide (z_hc 36 1) && (decide (plainName (z_mY 36).cls = true) && (decide (z_hc 37 1) && (decide (plainName (z_mY 37).cls = true) && (decide (z_hc 38 1) && (decide (plainName (z_mY 38).cls = true) && (decide (z_hc 166 2) && (decide (plainName (z_mY 166).cls = true) && (decide (z_hc 34 4) && (decide (plainName (z_mY 34).cls = true) && (decide (z_hc 24 1) && (decide (plainName (z_mY 24).cls = true) && (decide (z_hc 39 1) && (decide (plainName (z_mY 39).cls = true) && (decide (z_hc 41 1) && (decide (plainName (z_mY 41).cls = true) && (decide (z_hc 42 2) && (decide (plainName (z_mY 42).cls = true) && (decide (z_hc 43 1) && (decide (plainName (z_mY 43).cls = true) && (decide (z_hc 44 0) && (decide (plainName (z_mY 44).cls = true) && (decide (z_hc 295 1) && (decide (plainName (z_mY 295).cls = true) && (decide (z_hc 53 2) && (decide (plainName (z_mY 53).cls = true) && (decide (z_hc 51 2) && (decide (plainName (z_mY 51).cls = true) && (decide (z_hc 91 1) && (decide (plainName (z_mY 91).cls = true) && (decide (z_hc 92 2) && (decide (plainName (z_mY 92).cls = true) && (decide (z_hc 52 2) && (decide (plainName (z_mY 52).cls = true) && (decide (z_hw 875 (Cond.methodLink (z_mY 56).cls 33 Lib.Math.min.name)) && (decide (z_hc 18 2) && (decide (plainName (z_mY 18).cls = true) && (decide (z_hc 57 2) && (decide (plainName (z_mY 57).cls = true) && (decide (z_hw 944 (Cond.methodLink (z_mY 63).cls 25 Lib.Math.max.name)) && (decide (z_hw 957 (Cond.methodLink (z_mY 64).cls 31 Lib.Math.min.name)) && (decide (z_hc 64 0) && (decide (plainName (z_mY 64).cls = true) && (decide (z_hc 113 0) && (decide (plainName (z_mY 113).cls = true) && (decide (z_hc 69 0) && (decide (plainName (z_mY 69).cls = true) && (decide (z_hc 76 0) && (decide (plainName (z_mY 76).cls = true) && (decide (z_hc 75 0) && (decide (plainName (z_mY 75).cls = true) && (decide (z_hc 78 1) && (decide (plainName (z_mY 78).cls = true) && (decide (z_hc 74 0) && (decide (plainName (z_mY 74).cls = true) && (decide (z_hc 71 0) && (decide (plainName (z_mY 71).cls = true) && (decide (z_hc 70 0) && (decide (plainName (z_mY 70).cls = true) && (decide (z_hc 80 3) && (decide (plainName (z_mY 80).cls = true) && (decide (z_hc 77 0) && (decide (plainName (z_mY 77).cls = true) && (decide (z_hc 72 1) && (decide (plainName (z_mY 72).cls = true) && (decide (z_hc 73 1) && (decide (plainName (z_mY 73).cls = true) && (decide (z_hc 79 1) && (decide (plainName (z_mY 79).cls = true) && (decide (z_hc 82 0) && (decide (plainName (z_mY 82).cls = true) && (decide (z_hc 83 0) && (decide (plainName (z_mY 83).cls = true) && (decide (z_hc 81 2) && (decide (plainName (z_mY 81).cls = true) && (decide (z_hc 84 1) && (decide (plainName (z_mY 84).cls = true) && (decide (z_hw 712 (Cond.methodLink (z_mY 86).cls 47 Lib.Math.max.name)) && (decide (z_hc 87 1) && (decide (plainName (z_mY 87).cls = true) && (decide (z_hc 89 1) && (decide (plainName (z_mY 89).cls = true) && (decide (z_hc 90 1) && (decide (plainName (z_mY 90).cls = true) && (decide (z_hc 88 2) && (decide (plainName (z_mY 88).cls = true) && (decide (z_hc 28 3) && (decide (plainName (z_mY 28).cls = true) && (decide (z_hc 27 3) && (decide (plainName (z_mY 27).cls = true) && (decide (z_hc 96 2) && (decide (plainName (z_mY 96).cls = true) && (decide (z_hc 100 0) && (decide (plainName (z_mY 100).cls = true) && (decide (z_hc 294 1) && (decide (plainName (z_mY 294).cls = true) && (decide (z_hc 94 1) && (decide (plainName (z_mY 94).cls = true) && (decide (z_hc 29 2) && (decide (plainName (z_mY 29).cls = true) && (decide (z_hc 103 1) && (decide (plainName (z_mY 103).cls = true) && (decide (z_hc 104 1) && (decide (plainName (z_mY 104).cls = true) && (decide (z_hc 105 0) && (decide (plainName (z_mY 105).cls = true) && (decide (z_hc 109 3) && (decide (plainName (z_mY 109).cls = true) && (decide (z_hw 1001 (Cond.methodLink (z_mY 109).cls 138 Lib.Math.min.name)) && (decide (z_hc 111 2) && (decide (plainName (z_mY 111).cls = true) && (decide (z_hc 112 3) && (decide (plainName (z_mY 112).cls = true) && (decide (z_hc 116 0) && (decide (plainName (z_mY 116).cls = true) && (decide (z_hc 66 1) && (decide (plainName (z_mY 66).cls = true) && (decide (z_hc 15 0) && (decide (plainName (z_mY 15).cls = true) && (decide (z_hc 85 1) && (decide (plainName (z_mY 85).cls = true) && (decide (z_hc 54 0) && (decide (plainName (z_mY 54).cls = true) && (decide (z_hc 59 0) && (decide (plainName (z_mY 59).cls = true) && (decide (z_hc 0 0) && (decide (plainName (z_mY 0).cls = true) && (decide (z_hc 49 0) && (decide (plainName (z_mY 49).cls = true) && (decide (z_hc 8 0) && (decide (plainName (z_mY 8).cls = true) && (decide (z_hc 117 1) && (decide (plainName (z_mY 117).cls = true) && (decide (z_hc 118 1) && (decide (plainName (z_mY 118).cls = true) && (decide (z_hc 67 0) && (decide (plainName (z_mY 67).cls = true) && (decide (z_hc 68 0) && (decide (plainName (z_mY 68).cls = true) && (decide (z_hc 124 0) && (decide (plainName (z_mY 124).cls = true) && (decide (z_hc 125 0) && (decide (plainName (z_mY 125).cls = true) && (decide (z_hc 55 0) && (decide (plainName (z_mY 55).cls = true) && (decide (z_hc 60 0) && (decide (plainName (z_mY 60).cls = true) && (decide (z_hc 16 0) && (decide (plainName (z_mY 16).cls = true) && (decide (z_hc 35 1) && (decide (plainName (z_mY 35).cls = true) && (decide (z_hc 40 1) && (decide (plainName (z_mY 40).cls = true) && (decide (z_hc 114 1) && (decide (plainName (z_mY 114).cls = true) && (true))))))))))))))))))))))))))))))))))))))))))))))))))))))))))))))))))))))))))))))))))))))))))))))))))))))))))))))))))))))))))))))))))))))))))))))))))))))))))))))))))))))))))))))))))))))))))))))))))))))))) = true := by decide +kernel
set_option maxRecDepth 100000 in
theorem zK_0_0 : z_hk 554 6 ∧ z_hk 559 1 ∧ z_hk 563 2 ∧ z_hk 567 3 ∧ z_hk 571 4 ∧ z_hk 847 11 ∧ z_hk 585 167 ∧ z_hk 850 12 ∧ z_hk 225 298 ∧ z_hk 593 19 ∧ z_hk 739 26 ∧ z_hk 743 25 ∧ z_hk 601 20 ∧ z_hk 605 21 ∧ z_hk 609 22 ∧ z_hk 613 23 ∧ z_hk 616 33 ∧ z_hk 625 32 ∧ z_hk 597 31 ∧ z_hk 579 36 ∧ z_hk 629 37 ∧ z_hk 637 38 ∧ z_hk 582 166 ∧ z_hk 589 34 ∧ z_hk 633 24 ∧ z_hk 640 39 ∧ z_hk 648 41 ∧ z_hk 652 42 ∧ z_hk 656 43 ∧ z_hk 678 44 ∧ z_hk 681 295 ∧ z_hk 978 53 ∧ z_hk 982 51 ∧ z_hk 749 91 ∧ z_hk 757 92 ∧ z_hk 988 52 ∧ z_hk 774 18 ∧ z_hk 770 57 ∧ z_hk 956 64 ∧ z_hk 176 113 ∧ z_hk 464 69 ∧ z_hk 469 76 ∧ z_hk 514 75 ∧ z_hk 522 78 ∧ z_hk 473 74 ∧ z_hk 477 71 ∧ z_hk 489 70 ∧ z_hk 481 80 ∧ z_hk 507 77 ∧ z_hk 500 72 ∧ z_hk 510 73 ∧ z_hk 525 79 ∧ z_hk 485 82 ∧ z_hk 493 83 ∧ z_hk 503 81 ∧ z_hk 497 84 ∧ z_hk 716 87 ∧ z_hk 722 89 ∧ z_hk 727 90 ∧ z_hk 731 88 ∧ z_hk 735 28 ∧ z_hk 789 27 ∧ z_hk 793 96 ∧ z_hk 835 100 ∧ z_hk 691 294 ∧ z_hk 780 94 ∧ z_hk 823 29 ∧ z_hk 818 103 ∧ z_hk 827 104 ∧ z_hk 813 105 ∧ z_hk 1000 109 ∧ z_hk 1009 111 ∧ z_hk 1013 112 ∧ z_hk 151 116 ∧ z_hk 168 66 ∧ z_hk 221 15 ∧ z_hk 239 85 ∧ z_hk 282 54 ∧ z_hk 299 59 ∧ z_hk 312 0 ∧ z_hk 348 49 ∧ z_hk 370 8 ∧ z_hk 444 117 ∧ z_hk 448 118 ∧ z_hk 460 67 ∧ z_hk 518 68 ∧ z_hk 534 124 ∧ z_hk 660 125 ∧ z_hk 538 55 ∧ z_hk 542 60 ∧ z_hk 549 16 ∧ z_hk 575 35 ∧ z_hk 644 40 ∧ z_hk 665 114 ∧ True := ⟨rfl, rfl, rfl, rfl, rfl, rfl, rfl, rfl, rfl, rfl, rfl, rfl, rfl, rfl, rfl, rfl, rfl, rfl, rfl, rfl, rfl, rfl, rfl, rfl, rfl, rfl, rfl, rfl, rfl, rfl, rfl, rfl, rfl, rfl, rfl, rfl, rfl, rfl, rfl, rfl, rfl, rfl, rfl, rfl, rfl, rfl, rfl, rfl, rfl, rfl, rfl, rfl, rfl, rfl, rfl, rfl, rfl, rfl, rfl, rfl, rfl, rfl, rfl, rfl, rfl, rfl, rfl, rfl, rfl, rfl, rfl, rfl, rfl, rfl, rfl, rfl, rfl, rfl, rfl, rfl, rfl, rfl, rfl, rfl, rfl, rfl, rfl, rfl, rfl, rfl, rfl, rfl, rfl, rfl, trivial⟩
theorem zc_6 : ∀ m, z_ce m 6 3 := fun _ => z_hcE zK_0_0.1 (z_b1 zB_0_0)
theorem zy_6 : plainName (z_mY 6).cls = true ∧ (6 : Nat) ≠ 128 ∧ (6 : Nat) ≠ 299 := ⟨(z_b1 (z_b2 zB_0_0)), by decide, by decide⟩
theorem zcl_6 : z_cls[0]? = some ((z_mY 6).cls, TX0, 7) := rfl
theorem zc_1 : ∀ m, z_ce m 1 5 := fun _ => z_hcE zK_0_0.2.1 (z_b1 (z_b2 (z_b2 zB_0_0)))
theorem zy_1 : plainName (z_mY 1).cls = true ∧ (1 : Nat) ≠ 128 ∧ (1 : Nat) ≠ 299 := ⟨(z_b1 (z_b2 (z_b2 (z_b2 zB_0_0)))), by decide, by decide⟩
theorem zcl_1 : z_cls[0]? = some ((z_mY 1).cls, TX0, 7) := rfl
theorem zc_2 : ∀ m, z_ce m 2 1 := fun _ => z_hcE zK_0_0.2.2.1 (z_b1 (z_b2 (z_b2 (z_b2 (z_b2 zB_0_0)))))
theorem zy_2 : plainName (z_mY 2).cls = true ∧ (2 : Nat) ≠ 128 ∧ (2 : Nat) ≠ 299 := ⟨(z_b1 (z_b2 (z_b2 (z_b2 (z_b2 (z_b2 zB_0_0)))))), by decide, by decide⟩
theorem zcl_2 : z_cls[0]? = some ((z_mY 2).cls, TX0, 7) := rfl
theorem zc_3 : ∀ m, z_ce m 3 2 := fun _ => z_hcE zK_0_0.2.2.2.1 (z_b1 (z_b2 (z_b2 (z_b2 (z_b2 (z_b2 (z_b2 zB_0_0)))))))
theorem zy_3 : plainName (z_mY 3).cls = true ∧ (3 : Nat) ≠ 128 ∧ (3 : Nat) ≠ 299 := ⟨(z_b1 (z_b2 (z_b2 (z_b2 (z_b2 (z_b2 (z_b2 (z_b2 zB_0_0)))))))), by decide, by decide⟩
theorem zcl_3 : z_cls[0]? = some ((z_mY 3).cls, TX0, 7) := rfl
def zB_0_8 := z_b2 (z_b2 (z_b2 (z_b2 (z_b2 (z_b2 (z_b2 (z_b2 zB_0_0)))))))
theorem zc_4 : ∀ m, z_ce m 4 2 := fun _ => z_hcE zK_0_0.2.2.2.2.1 (z_b1 zB_0_8)
theorem zy_4 : plainName (z_mY 4).cls = true ∧ (4 : Nat) ≠ 128 ∧ (4 : Nat) ≠ 299 := ⟨(z_b1 (z_b2 zB_0_8)), by decide, by decide⟩
theorem zcl_4 : z_cls[0]? = some ((z_mY 4).cls, TX0, 7) := rfl
theorem zc_11 : ∀ m, z_ce m 11 5 := fun _ => z_hcE zK_0_0.2.2.2.2.2.1 (z_b1 (z_b2 (z_b2 zB_0_8)))
theorem zy_11 : plainName (z_mY 11).cls = true ∧ (11 : Nat) ≠ 128 ∧ (11 : Nat) ≠ 299 := ⟨(z_b1 (z_b2 (z_b2 (z_b2 zB_0_8)))), by decide, by decide⟩
theorem zc_167 : ∀ m, z_ce m 167 1 := fun _ => z_hcE zK_0_0.2.2.2.2.2.2.1 (z_b1 (z_b2 (z_b2 (z_b2 (z_b2 zB_0_8)))))
theorem zy_167 : plainName (z_mY 167).cls = true ∧ (167 : Nat) ≠ 128 ∧ (167 : Nat) ≠ 299 := ⟨(z_b1 (z_b2 (z_b2 (z_b2 (z_b2 (z_b2 zB_0_8)))))), by decide, by decide⟩
theorem zc_12 : ∀ m, z_ce m 12 4 := fun _ => z_hcE zK_0_0.2.2.2.2.2.2.2.1 (z_b1 (z_b2 (z_b2 (z_b2 (z_b2 (z_b2 (z_b2 zB_0_8)))))))
theorem zy_12 : plainName (z_mY 12).cls = true ∧ (12 : Nat) ≠ 128 ∧ (12 : Nat) ≠ 299 := ⟨(z_b1 (z_b2 (z_b2 (z_b2 (z_b2 (z_b2 (z_b2 (z_b2 zB_0_8)))))))), by decide, by decide⟩
def zB_0_16 := z_b2 (z_b2 (z_b2 (z_b2 (z_b2 (z_b2 (z_b2 (z_b2 zB_0_8)))))))
theorem zw_851 : Cond.methodLink (z_mY 11).cls 31 Lib.Math.max.name ∈ z_TB := z_inH (z_b1 zB_0_16)
theorem zw_621 : Cond.static Lib.Math.max.name ∈ z_TB := z_inH (z_b1 (z_b2 zB_0_16))
theorem zw_622 : Cond.code Lib.Math.max.name Lib.Math.max.code 2 (some .int) ∈ z_TB := z_inH (z_b1 (z_b2 (z_b2 zB_0_16)))
def zK_0_8 := zK_0_0.2.2.2.2.2.2.2.2
theorem zc_298 : ∀ m, z_ce m 298 2 := fun _ => z_hcE zK_0_8.1 (z_b1 (z_b2 (z_b2 (z_b2 zB_0_16))))
theorem zy_298 : plainName (z_mY 298).cls = true ∧ (298 : Nat) ≠ 128 ∧ (298 : Nat) ≠ 299 := ⟨(z_b1 (z_b2 (z_b2 (z_b2 (z_b2 zB_0_16))))), by decide, by decide⟩
theorem zc_19 : ∀ m, z_ce m 19 1 := fun _ => z_hcE zK_0_8.2.1 (z_b1 (z_b2 (z_b2 (z_b2 (z_b2 (z_b2 zB_0_16))))))
theorem zy_19 : plainName (z_mY 19).cls = true ∧ (19 : Nat) ≠ 128 ∧ (19 : Nat) ≠ 299 := ⟨(z_b1 (z_b2 (z_b2 (z_b2 (z_b2 (z_b2 (z_b2 zB_0_16))))))), by decide, by decide⟩
theorem zcl_19 : z_cls[3]? = some ((z_mY 19).cls, TX3, 2) := rfl
theorem zc_26 : ∀ m, z_ce m 26 2 := fun _ => z_hcE zK_0_8.2.2.1 (z_b1 (z_b2 (z_b2 (z_b2 (z_b2 (z_b2 (z_b2 (z_b2 zB_0_16))))))))
def zB_0_24 := z_b2 (z_b2 (z_b2 (z_b2 (z_b2 (z_b2 (z_b2 (z_b2 zB_0_16)))))))
theorem zy_26 : plainName (z_mY 26).cls = true ∧ (26 : Nat) ≠ 128 ∧ (26 : Nat) ≠ 299 := ⟨(z_b1 zB_0_24), by decide, by decide⟩
theorem zcl_26 : z_cls[3]? = some ((z_mY 26).cls, TX3, 2) := rfl
theorem zc_25 : ∀ m, z_ce m 25 1 := fun _ => z_hcE zK_0_8.2.2.2.1 (z_b1 (z_b2 zB_0_24))
theorem zy_25 : plainName (z_mY 25).cls = true ∧ (25 : Nat) ≠ 128 ∧ (25 : Nat) ≠ 299 := ⟨(z_b1 (z_b2 (z_b2 zB_0_24))), by decide, by decide⟩
theorem zcl_25 : z_cls[3]? = some ((z_mY 25).cls, TX3, 2) := rfl
theorem zc_20 : ∀ m, z_ce m 20 1 := fun _ => z_hcE zK_0_8.2.2.2.2.1 (z_b1 (z_b2 (z_b2 (z_b2 zB_0_24))))
theorem zy_20 : plainName (z_mY 20).cls = true ∧ (20 : Nat) ≠ 128 ∧ (20 : Nat) ≠ 299 := ⟨(z_b1 (z_b2 (z_b2 (z_b2 (z_b2 zB_0_24))))), by decide, by decide⟩
theorem zcl_20 : z_cls[3]? = some ((z_mY 20).cls, TX3, 2) := rfl
theorem zc_21 : ∀ m, z_ce m 21 1 := fun _ => z_hcE zK_0_8.2.2.2.2.2.1 (z_b1 (z_b2 (z_b2 (z_b2 (z_b2 (z_b2 zB_0_24))))))
theorem zy_21 : plainName (z_mY 21).cls = true ∧ (21 : Nat) ≠ 128 ∧ (21 : Nat) ≠ 299 := ⟨(z_b1 (z_b2 (z_b2 (z_b2 (z_b2 (z_b2 (z_b2 zB_0_24))))))), by decide, by decide⟩
theorem zcl_21 : z_cls[3]? = some ((z_mY 21).cls, TX3, 2) := rfl
theorem zc_22 : ∀ m, z_ce m 22 1 := fun _ => z_hcE zK_0_8.2.2.2.2.2.2.1 (z_b1 (z_b2 (z_b2 (z_b2 (z_b2 (z_b2 (z_b2 (z_b2 zB_0_24))))))))
def zB_0_32 := z_b2 (z_b2 (z_b2 (z_b2 (z_b2 (z_b2 (z_b2 (z_b2 zB_0_24)))))))
theorem zy_22 : plainName (z_mY 22).cls = true ∧ (22 : Nat) ≠ 128 ∧ (22 : Nat) ≠ 299 := ⟨(z_b1 zB_0_32), by decide, by decide⟩
theorem zcl_22 : z_cls[3]? = some ((z_mY 22).cls, TX3, 2) := rfl
theorem zc_23 : ∀ m, z_ce m 23 1 := fun _ => z_hcE zK_0_8.2.2.2.2.2.2.2.1 (z_b1 (z_b2 zB_0_32))
theorem zy_23 : plainName (z_mY 23).cls = true ∧ (23 : Nat) ≠ 128 ∧ (23 : Nat) ≠ 299 := ⟨(z_b1 (z_b2 (z_b2 zB_0_32))), by decide, by decide⟩
theorem zcl_23 : z_cls[3]? = some ((z_mY 23).cls, TX3, 2) := rfl
def zK_0_16 := zK_0_8.2.2.2.2.2.2.2.2
theorem zc_33 : ∀ m, z_ce m 33 6 := fun _ => z_hcE zK_0_16.1 (z_b1 (z_b2 (z_b2 (z_b2 zB_0_32))))
theorem zy_33 : plainName (z_mY 33).cls = true ∧ (33 : Nat) ≠ 128 ∧ (33 : Nat) ≠ 299 := ⟨(z_b1 (z_b2 (z_b2 (z_b2 (z_b2 zB_0_32))))), by decide, by decide⟩
theorem zw_617 : Cond.methodLink (z_mY 31).cls 59 Lib.Math.min.name ∈ z_TB := z_inH (z_b1 (z_b2 (z_b2 (z_b2 (z_b2 (z_b2 zB_0_32))))))
theorem zw_618 : Cond.static Lib.Math.min.name ∈ z_TB := z_inH (z_b1 (z_b2 (z_b2 (z_b2 (z_b2 (z_b2 (z_b2 zB_0_32)))))))
theorem zw_619 : Cond.code Lib.Math.min.name Lib.Math.min.code 2 (some .int) ∈ z_TB := z_inH (z_b1 (z_b2 (z_b2 (z_b2 (z_b2 (z_b2 (z_b2 (z_b2 zB_0_32))))))))
def zB_0_40 := z_b2 (z_b2 (z_b2 (z_b2 (z_b2 (z_b2 (z_b2 (z_b2 zB_0_32)))))))
theorem zw_620 : Cond.methodLink (z_mY 31).cls 64 Lib.Math.max.name ∈ z_TB := z_inH (z_b1 zB_0_40)
theorem zc_32 : ∀ m, z_ce m 32 2 := fun _ => z_hcE zK_0_16.2.1 (z_b1 (z_b2 zB_0_40))
theorem zy_32 : plainName (z_mY 32).cls = true ∧ (32 : Nat) ≠ 128 ∧ (32 : Nat) ≠ 299 := ⟨(z_b1 (z_b2 (z_b2 zB_0_40))), by decide, by decide⟩
theorem zc_31 : ∀ m, z_ce m 31 5 := fun _ => z_hcE zK_0_16.2.2.1 (z_b1 (z_b2 (z_b2 (z_b2 zB_0_40))))
theorem zy_31 : plainName (z_mY 31).cls = true ∧ (31 : Nat) ≠ 128 ∧ (31 : Nat) ≠ 299 := ⟨(z_b1 (z_b2 (z_b2 (z_b2 (z_b2 zB_0_40))))), by decide, by decide⟩
theorem zcl_31 : z_cls[3]? = some ((z_mY 31).cls, TX3, 2) := rfl
theorem zc_36 : ∀ m, z_ce m 36 1 := fun _ => z_hcE zK_0_16.2.2.2.1 (z_b1 (z_b2 (z_b2 (z_b2 (z_b2 (z_b2 zB_0_40))))))
theorem zy_36 : plainName (z_mY 36).cls = true ∧ (36 : Nat) ≠ 128 ∧ (36 : Nat) ≠ 299 := ⟨(z_b1 (z_b2 (z_b2 (z_b2 (z_b2 (z_b2 (z_b2 zB_0_40))))))), by decide, by decide⟩
theorem zcl_36 : z_cls[3]? = some ((z_mY 36).cls, TX3, 2) := rfl
theorem zc_37 : ∀ m, z_ce m 37 1 := fun _ => z_hcE zK_0_16.2.2.2.2.1 (z_b1 (z_b2 (z_b2 (z_b2 (z_b2 (z_b2 (z_b2 (z_b2 zB_0_40))))))))
def zB_0_48 := z_b2 (z_b2 (z_b2 (z_b2 (z_b2 (z_b2 (z_b2 (z_b2 zB_0_40)))))))
theorem zy_37 : plainName (z_mY 37).cls = true ∧ (37 : Nat) ≠ 128 ∧ (37 : Nat) ≠ 299 := ⟨(z_b1 zB_0_48), by decide, by decide⟩
theorem zcl_37 : z_cls[3]? = some ((z_mY 37).cls, TX3, 2) := rfl
theorem zc_38 : ∀ m, z_ce m 38 1 := fun _ => z_hcE zK_0_16.2.2.2.2.2.1 (z_b1 (z_b2 zB_0_48))
theorem zy_38 : plainName (z_mY 38).cls = true ∧ (38 : Nat) ≠ 128 ∧ (38 : Nat) ≠ 299 := ⟨(z_b1 (z_b2 (z_b2 zB_0_48))), by decide, by decide⟩
theorem zcl_38 : z_cls[3]? = some ((z_mY 38).cls, TX3, 2) := rfl
theorem zc_166 : ∀ m, z_ce m 166 2 := fun _ => z_hcE zK_0_16.2.2.2.2.2.2.1 (z_b1 (z_b2 (z_b2 (z_b2 zB_0_48))))
theorem zy_166 : plainName (z_mY 166).cls = true ∧ (166 : Nat) ≠ 128 ∧ (166 : Nat) ≠ 299 := ⟨(z_b1 (z_b2 (z_b2 (z_b2 (z_b2 zB_0_48))))), by decide, by decide⟩
theorem zc_34 : ∀ m, z_ce m 34 4 := fun _ => z_hcE zK_0_16.2.2.2.2.2.2.2.1 (z_b1 (z_b2 (z_b2 (z_b2 (z_b2 (z_b2 zB_0_48))))))
theorem zy_34 : plainName (z_mY 34).cls = true ∧ (34 : Nat) ≠ 128 ∧ (34 : Nat) ≠ 299 := ⟨(z_b1 (z_b2 (z_b2 (z_b2 (z_b2 (z_b2 (z_b2 zB_0_48))))))), by decide, by decide⟩
theorem zcl_34 : z_cls[3]? = some ((z_mY 34).cls, TX3, 2) := rfl
def zK_0_24 := zK_0_16.2.2.2.2.2.2.2.2
theorem zc_24 : ∀ m, z_ce m 24 1 := fun _ => z_hcE zK_0_24.1 (z_b1 (z_b2 (z_b2 (z_b2 (z_b2 (z_b2 (z_b2 (z_b2 zB_0_48))))))))
def zB_0_56 := z_b2 (z_b2 (z_b2 (z_b2 (z_b2 (z_b2 (z_b2 (z_b2 zB_0_48)))))))
theorem zy_24 : plainName (z_mY 24).cls = true ∧ (24 : Nat) ≠ 128 ∧ (24 : Nat) ≠ 299 := ⟨(z_b1 zB_0_56), by decide, by decide⟩
theorem zcl_24 : z_cls[3]? = some ((z_mY 24).cls, TX3, 2) := rfl
theorem zc_39 : ∀ m, z_ce m 39 1 := fun _ => z_hcE zK_0_24.2.1 (z_b1 (z_b2 zB_0_56))
theorem zy_39 : plainName (z_mY 39).cls = true ∧ (39 : Nat) ≠ 128 ∧ (39 : Nat) ≠ 299 := ⟨(z_b1 (z_b2 (z_b2 zB_0_56))), by decide, by decide⟩
theorem zc_41 : ∀ m, z_ce m 41 1 := fun _ => z_hcE zK_0_24.2.2.1 (z_b1 (z_b2 (z_b2 (z_b2 zB_0_56))))
theorem zy_41 : plainName (z_mY 41).cls = true ∧ (41 : Nat) ≠ 128 ∧ (41 : Nat) ≠ 299 := ⟨(z_b1 (z_b2 (z_b2 (z_b2 (z_b2 zB_0_56))))), by decide, by decide⟩
theorem zcl_41 : z_cls[3]? = some ((z_mY 41).cls, TX3, 2) := rfl
theorem zc_42 : ∀ m, z_ce m 42 2 := fun _ => z_hcE zK_0_24.2.2.2.1 (z_b1 (z_b2 (z_b2 (z_b2 (z_b2 (z_b2 zB_0_56))))))
theorem zy_42 : plainName (z_mY 42).cls = true ∧ (42 : Nat) ≠ 128 ∧ (42 : Nat) ≠ 299 := ⟨(z_b1 (z_b2 (z_b2 (z_b2 (z_b2 (z_b2 (z_b2 zB_0_56))))))), by decide, by decide⟩
theorem zcl_42 : z_cls[3]? = some ((z_mY 42).cls, TX3, 2) := rfl
theorem zc_43 : ∀ m, z_ce m 43 1 := fun _ => z_hcE zK_0_24.2.2.2.2.1 (z_b1 (z_b2 (z_b2 (z_b2 (z_b2 (z_b2 (z_b2 (z_b2 zB_0_56))))))))
def zB_0_64 := z_b2 (z_b2 (z_b2 (z_b2 (z_b2 (z_b2 (z_b2 (z_b2 zB_0_56)))))))
theorem zy_43 : plainName (z_mY 43).cls = true ∧ (43 : Nat) ≠ 128 ∧ (43 : Nat) ≠ 299 := ⟨(z_b1 zB_0_64), by decide, by decide⟩
theorem zcl_43 : z_cls[3]? = some ((z_mY 43).cls, TX3, 2) := rfl
theorem zc_44 : ∀ m, z_ce m 44 0 := fun _ => z_hcE zK_0_24.2.2.2.2.2.1 (z_b1 (z_b2 zB_0_64))
theorem zy_44 : plainName (z_mY 44).cls = true ∧ (44 : Nat) ≠ 128 ∧ (44 : Nat) ≠ 299 := ⟨(z_b1 (z_b2 (z_b2 zB_0_64))), by decide, by decide⟩
theorem zcl_44 : z_cls[3]? = some ((z_mY 44).cls, TX3, 2) := rfl
theorem zc_295 : ∀ m, z_ce m 295 1 := fun _ => z_hcE zK_0_24.2.2.2.2.2.2.1 (z_b1 (z_b2 (z_b2 (z_b2 zB_0_64))))
theorem zy_295 : plainName (z_mY 295).cls = true ∧ (295 : Nat) ≠ 128 ∧ (295 : Nat) ≠ 299 := ⟨(z_b1 (z_b2 (z_b2 (z_b2 (z_b2 zB_0_64))))), by decide, by decide⟩
theorem zc_53 : ∀ m, z_ce m 53 2 := fun _ => z_hcE zK_0_24.2.2.2.2.2.2.2.1 (z_b1 (z_b2 (z_b2 (z_b2 (z_b2 (z_b2 zB_0_64))))))
theorem zy_53 : plainName (z_mY 53).cls = true ∧ (53 : Nat) ≠ 128 ∧ (53 : Nat) ≠ 299 := ⟨(z_b1 (z_b2 (z_b2 (z_b2 (z_b2 (z_b2 (z_b2 zB_0_64))))))), by decide, by decide⟩
theorem zcl_53 : z_cls[4]? = some ((z_mY 53).cls, TX4, 5) := rfl
def zK_0_32 := zK_0_24.2.2.2.2.2.2.2.2
theorem zc_51 : ∀ m, z_ce m 51 2 := fun _ => z_hcE zK_0_32.1 (z_b1 (z_b2 (z_b2 (z_b2 (z_b2 (z_b2 (z_b2 (z_b2 zB_0_64))))))))
def zB_0_72 := z_b2 (z_b2 (z_b2 (z_b2 (z_b2 (z_b2 (z_b2 (z_b2 zB_0_64)))))))
theorem zy_51 : plainName (z_mY 51).cls = true ∧ (51 : Nat) ≠ 128 ∧ (51 : Nat) ≠ 299 := ⟨(z_b1 zB_0_72), by decide, by decide⟩
theorem zcl_51 : z_cls[4]? = some ((z_mY 51).cls, TX4, 5) := rfl
theorem zc_91 : ∀ m, z_ce m 91 1 := fun _ => z_hcE zK_0_32.2.1 (z_b1 (z_b2 zB_0_72))
theorem zy_91 : plainName (z_mY 91).cls = true ∧ (91 : Nat) ≠ 128 ∧ (91 : Nat) ≠ 299 := ⟨(z_b1 (z_b2 (z_b2 zB_0_72))), by decide, by decide⟩
theorem zcl_91 : z_cls[8]? = some ((z_mY 91).cls, TX8, 11) := rfl
theorem zc_92 : ∀ m, z_ce m 92 2 := fun _ => z_hcE zK_0_32.2.2.1 (z_b1 (z_b2 (z_b2 (z_b2 zB_0_72))))
theorem zy_92 : plainName (z_mY 92).cls = true ∧ (92 : Nat) ≠ 128 ∧ (92 : Nat) ≠ 299 := ⟨(z_b1 (z_b2 (z_b2 (z_b2 (z_b2 zB_0_72))))), by decide, by decide⟩
theorem zcl_92 : z_cls[8]? = some ((z_mY 92).cls, TX8, 11) := rfl
theorem zc_52 : ∀ m, z_ce m 52 2 := fun _ => z_hcE zK_0_32.2.2.2.1 (z_b1 (z_b2 (z_b2 (z_b2 (z_b2 (z_b2 zB_0_72))))))
theorem zy_52 : plainName (z_mY 52).cls = true ∧ (52 : Nat) ≠ 128 ∧ (52 : Nat) ≠ 299 := ⟨(z_b1 (z_b2 (z_b2 (z_b2 (z_b2 (z_b2 (z_b2 zB_0_72))))))), by decide, by decide⟩
theorem zcl_52 : z_cls[4]? = some ((z_mY 52).cls, TX4, 5) := rfl
theorem zw_875 : Cond.methodLink (z_mY 56).cls 33 Lib.Math.min.name ∈ z_TB := z_inH (z_b1 (z_b2 (z_b2 (z_b2 (z_b2 (z_b2 (z_b2 (z_b2 zB_0_72))))))))
def zB_0_80 := z_b2 (z_b2 (z_b2 (z_b2 (z_b2 (z_b2 (z_b2 (z_b2 zB_0_72)))))))
theorem zc_18 : ∀ m, z_ce m 18 2 := fun _ => z_hcE zK_0_32.2.2.2.2.1 (z_b1 zB_0_80)
theorem zy_18 : plainName (z_mY 18).cls = true ∧ (18 : Nat) ≠ 128 ∧ (18 : Nat) ≠ 299 := ⟨(z_b1 (z_b2 zB_0_80)), by decide, by decide⟩
theorem zcl_18 : z_cls[3]? = some ((z_mY 18).cls, TX3, 2) := rfl
theorem zc_57 : ∀ m, z_ce m 57 2 := fun _ => z_hcE zK_0_32.2.2.2.2.2.1 (z_b1 (z_b2 (z_b2 zB_0_80)))
theorem zy_57 : plainName (z_mY 57).cls = true ∧ (57 : Nat) ≠ 128 ∧ (57 : Nat) ≠ 299 := ⟨(z_b1 (z_b2 (z_b2 (z_b2 zB_0_80)))), by decide, by decide⟩
theorem zcl_57 : z_cls[5]? = some ((z_mY 57).cls, TX5, 3) := rfl
theorem zw_944 : Cond.methodLink (z_mY 63).cls 25 Lib.Math.max.name ∈ z_TB := z_inH (z_b1 (z_b2 (z_b2 (z_b2 (z_b2 zB_0_80)))))
theorem zw_957 : Cond.methodLink (z_mY 64).cls 31 Lib.Math.min.name ∈ z_TB := z_inH (z_b1 (z_b2 (z_b2 (z_b2 (z_b2 (z_b2 zB_0_80))))))
theorem zc_64 : ∀ m, z_ce m 64 0 := fun _ => z_hcE zK_0_32.2.2.2.2.2.2.1 (z_b1 (z_b2 (z_b2 (z_b2 (z_b2 (z_b2 (z_b2 zB_0_80)))))))
theorem zy_64 : plainName (z_mY 64).cls = true ∧ (64 : Nat) ≠ 128 ∧ (64 : Nat) ≠ 299 := ⟨(z_b1 (z_b2 (z_b2 (z_b2 (z_b2 (z_b2 (z_b2 (z_b2 zB_0_80)))))))), by decide, by decide⟩
theorem zcl_64 : z_cls[6]? = some ((z_mY 64).cls, TX6, 2) := rfl
def zB_0_88 := z_b2 (z_b2 (z_b2 (z_b2 (z_b2 (z_b2 (z_b2 (z_b2 zB_0_80)))))))
theorem zc_113 : ∀ m, z_ce m 113 0 := fun _ => z_hcE zK_0_32.2.2.2.2.2.2.2.1 (z_b1 zB_0_88)
theorem zy_113 : plainName (z_mY 113).cls = true ∧ (113 : Nat) ≠ 128 ∧ (113 : Nat) ≠ 299 := ⟨(z_b1 (z_b2 zB_0_88)), by decide, by decide⟩
theorem zcl_113 : z_cls[9]? = some ((z_mY 113).cls, TX9, 2) := rfl
def zK_0_40 := zK_0_32.2.2.2.2.2.2.2.2
theorem zc_69 : ∀ m, z_ce m 69 0 := fun _ => z_hcE zK_0_40.1 (z_b1 (z_b2 (z_b2 zB_0_88)))
theorem zy_69 : plainName (z_mY 69).cls = true ∧ (69 : Nat) ≠ 128 ∧ (69 : Nat) ≠ 299 := ⟨(z_b1 (z_b2 (z_b2 (z_b2 zB_0_88)))), by decide, by decide⟩
theorem zcl_69 : z_cls[7]? = some ((z_mY 69).cls, TX7, 7) := rfl
theorem zc_76 : ∀ m, z_ce m 76 0 := fun _ => z_hcE zK_0_40.2.1 (z_b1 (z_b2 (z_b2 (z_b2 (z_b2 zB_0_88)))))
theorem zy_76 : plainName (z_mY 76).cls = true ∧ (76 : Nat) ≠ 128 ∧ (76 : Nat) ≠ 299 := ⟨(z_b1 (z_b2 (z_b2 (z_b2 (z_b2 (z_b2 zB_0_88)))))), by decide, by decide⟩
theorem zcl_76 : z_cls[7]? = some ((z_mY 76).cls, TX7, 7) := rfl
theorem zc_75 : ∀ m, z_ce m 75 0 := fun _ => z_hcE zK_0_40.2.2.1 (z_b1 (z_b2 (z_b2 (z_b2 (z_b2 (z_b2 (z_b2 zB_0_88)))))))
theorem zy_75 : plainName (z_mY 75).cls = true ∧ (75 : Nat) ≠ 128 ∧ (75 : Nat) ≠ 299 := ⟨(z_b1 (z_b2 (z_b2 (z_b2 (z_b2 (z_b2 (z_b2 (z_b2 zB_0_88)))))))), by decide, by decide⟩
theorem zcl_75 : z_cls[7]? = some ((z_mY 75).cls, TX7, 7) := rfl
def zB_0_96 := z_b2 (z_b2 (z_b2 (z_b2 (z_b2 (z_b2 (z_b2 (z_b2 zB_0_88)))))))
theorem zc_78 : ∀ m, z_ce m 78 1 := fun _ => z_hcE zK_0_40.2.2.2.1 (z_b1 zB_0_96)
theorem zy_78 : plainName (z_mY 78).cls = true ∧ (78 : Nat) ≠ 128 ∧ (78 : Nat) ≠ 299 := ⟨(z_b1 (z_b2 zB_0_96)), by decide, by decide⟩
theorem zcl_78 : z_cls[7]? = some ((z_mY 78).cls, TX7, 7) := rfl
theorem zc_74 : ∀ m, z_ce m 74 0 := fun _ => z_hcE zK_0_40.2.2.2.2.1 (z_b1 (z_b2 (z_b2 zB_0_96)))
theorem zy_74 : plainName (z_mY 74).cls = true ∧ (74 : Nat) ≠ 128 ∧ (74 : Nat) ≠ 299 := ⟨(z_b1 (z_b2 (z_b2 (z_b2 zB_0_96)))), by decide, by decide⟩
theorem zcl_74 : z_cls[7]? = some ((z_mY 74).cls, TX7, 7) := rfl
theorem zc_71 : ∀ m, z_ce m 71 0 := fun _ => z_hcE zK_0_40.2.2.2.2.2.1 (z_b1 (z_b2 (z_b2 (z_b2 (z_b2 zB_0_96)))))
theorem zy_71 : plainName (z_mY 71).cls = true ∧ (71 : Nat) ≠ 128 ∧ (71 : Nat) ≠ 299 := ⟨(z_b1 (z_b2 (z_b2 (z_b2 (z_b2 (z_b2 zB_0_96)))))), by decide, by decide⟩
theorem zcl_71 : z_cls[7]? = some ((z_mY 71).cls, TX7, 7) := rfl
theorem zc_70 : ∀ m, z_ce m 70 0 := fun _ => z_hcE zK_0_40.2.2.2.2.2.2.1 (z_b1 (z_b2 (z_b2 (z_b2 (z_b2 (z_b2 (z_b2 zB_0_96)))))))
theorem zy_70 : plainName (z_mY 70).cls = true ∧ (70 : Nat) ≠ 128 ∧ (70 : Nat) ≠ 299 := ⟨(z_b1 (z_b2 (z_b2 (z_b2 (z_b2 (z_b2 (z_b2 (z_b2 zB_0_96)))))))), by decide, by decide⟩
theorem zcl_70 : z_cls[7]? = some ((z_mY 70).cls, TX7, 7) := rfl
def zB_0_104 := z_b2 (z_b2 (z_b2 (z_b2 (z_b2 (z_b2 (z_b2 (z_b2 zB_0_96)))))))
theorem zc_80 : ∀ m, z_ce m 80 3 := fun _ => z_hcE zK_0_40.2.2.2.2.2.2.2.1 (z_b1 zB_0_104)
theorem zy_80 : plainName (z_mY 80).cls = true ∧ (80 : Nat) ≠ 128 ∧ (80 : Nat) ≠ 299 := ⟨(z_b1 (z_b2 zB_0_104)), by decide, by decide⟩
theorem zcl_80 : z_cls[7]? = some ((z_mY 80).cls, TX7, 7) := rfl
def zK_0_48 := zK_0_40.2.2.2.2.2.2.2.2
theorem zc_77 : ∀ m, z_ce m 77 0 := fun _ => z_hcE zK_0_48.1 (z_b1 (z_b2 (z_b2 zB_0_104)))
theorem zy_77 : plainName (z_mY 77).cls = true ∧ (77 : Nat) ≠ 128 ∧ (77 : Nat) ≠ 299 := ⟨(z_b1 (z_b2 (z_b2 (z_b2 zB_0_104)))), by decide, by decide⟩
theorem zcl_77 : z_cls[7]? = some ((z_mY 77).cls, TX7, 7) := rfl
theorem zc_72 : ∀ m, z_ce m 72 1 := fun _ => z_hcE zK_0_48.2.1 (z_b1 (z_b2 (z_b2 (z_b2 (z_b2 zB_0_104)))))
theorem zy_72 : plainName (z_mY 72).cls = true ∧ (72 : Nat) ≠ 128 ∧ (72 : Nat) ≠ 299 := ⟨(z_b1 (z_b2 (z_b2 (z_b2 (z_b2 (z_b2 zB_0_104)))))), by decide, by decide⟩
theorem zc_73 : ∀ m, z_ce m 73 1 := fun _ => z_hcE zK_0_48.2.2.1 (z_b1 (z_b2 (z_b2 (z_b2 (z_b2 (z_b2 (z_b2 zB_0_104)))))))
theorem zy_73 : plainName (z_mY 73).cls = true ∧ (73 : Nat) ≠ 128 ∧ (73 : Nat) ≠ 299 := ⟨(z_b1 (z_b2 (z_b2 (z_b2 (z_b2 (z_b2 (z_b2 (z_b2 zB_0_104)))))))), by decide, by decide⟩
def zB_0_112 := z_b2 (z_b2 (z_b2 (z_b2 (z_b2 (z_b2 (z_b2 (z_b2 zB_0_104)))))))
theorem zc_79 : ∀ m, z_ce m 79 1 := fun _ => z_hcE zK_0_48.2.2.2.1 (z_b1 zB_0_112)
theorem zy_79 : plainName (z_mY 79).cls = true ∧ (79 : Nat) ≠ 128 ∧ (79 : Nat) ≠ 299 := ⟨(z_b1 (z_b2 zB_0_112)), by decide, by decide⟩
theorem zc_82 : ∀ m, z_ce m 82 0 := fun _ => z_hcE zK_0_48.2.2.2.2.1 (z_b1 (z_b2 (z_b2 zB_0_112)))
theorem zy_82 : plainName (z_mY 82).cls = true ∧ (82 : Nat) ≠ 128 ∧ (82 : Nat) ≠ 299 := ⟨(z_b1 (z_b2 (z_b2 (z_b2 zB_0_112)))), by decide, by decide⟩
theorem zcl_82 : z_cls[7]? = some ((z_mY 82).cls, TX7, 7) := rfl
theorem zc_83 : ∀ m, z_ce m 83 0 := fun _ => z_hcE zK_0_48.2.2.2.2.2.1 (z_b1 (z_b2 (z_b2 (z_b2 (z_b2 zB_0_112)))))
theorem zy_83 : plainName (z_mY 83).cls = true ∧ (83 : Nat) ≠ 128 ∧ (83 : Nat) ≠ 299 := ⟨(z_b1 (z_b2 (z_b2 (z_b2 (z_b2 (z_b2 zB_0_112)))))), by decide, by decide⟩
theorem zcl_83 : z_cls[7]? = some ((z_mY 83).cls, TX7, 7) := rfl
theorem zc_81 : ∀ m, z_ce m 81 2 := fun _ => z_hcE zK_0_48.2.2.2.2.2.2.1 (z_b1 (z_b2 (z_b2 (z_b2 (z_b2 (z_b2 (z_b2 zB_0_112)))))))
theorem zy_81 : plainName (z_mY 81).cls = true ∧ (81 : Nat) ≠ 128 ∧ (81 : Nat) ≠ 299 := ⟨(z_b1 (z_b2 (z_b2 (z_b2 (z_b2 (z_b2 (z_b2 (z_b2 zB_0_112)))))))), by decide, by decide⟩
def zB_0_120 := z_b2 (z_b2 (z_b2 (z_b2 (z_b2 (z_b2 (z_b2 (z_b2 zB_0_112)))))))
theorem zc_84 : ∀ m, z_ce m 84 1 := fun _ => z_hcE zK_0_48.2.2.2.2.2.2.2.1 (z_b1 zB_0_120)
theorem zy_84 : plainName (z_mY 84).cls = true ∧ (84 : Nat) ≠ 128 ∧ (84 : Nat) ≠ 299 := ⟨(z_b1 (z_b2 zB_0_120)), by decide, by decide⟩
theorem zcl_84 : z_cls[7]? = some ((z_mY 84).cls, TX7, 7) := rfl
theorem zw_712 : Cond.methodLink (z_mY 86).cls 47 Lib.Math.max.name ∈ z_TB := z_inH (z_b1 (z_b2 (z_b2 zB_0_120)))
def zK_0_56 := zK_0_48.2.2.2.2.2.2.2.2
theorem zc_87 : ∀ m, z_ce m 87 1 := fun _ => z_hcE zK_0_56.1 (z_b1 (z_b2 (z_b2 (z_b2 zB_0_120))))
theorem zy_87 : plainName (z_mY 87).cls = true ∧ (87 : Nat) ≠ 128 ∧ (87 : Nat) ≠ 299 := ⟨(z_b1 (z_b2 (z_b2 (z_b2 (z_b2 zB_0_120))))), by decide, by decide⟩
theorem zcl_87 : z_cls[8]? = some ((z_mY 87).cls, TX8, 11) := rfl
theorem zc_89 : ∀ m, z_ce m 89 1 := fun _ => z_hcE zK_0_56.2.1 (z_b1 (z_b2 (z_b2 (z_b2 (z_b2 (z_b2 zB_0_120))))))
theorem zy_89 : plainName (z_mY 89).cls = true ∧ (89 : Nat) ≠ 128 ∧ (89 : Nat) ≠ 299 := ⟨(z_b1 (z_b2 (z_b2 (z_b2 (z_b2 (z_b2 (z_b2 zB_0_120))))))), by decide, by decide⟩
theorem zcl_89 : z_cls[8]? = some ((z_mY 89).cls, TX8, 11) := rfl
theorem zc_90 : ∀ m, z_ce m 90 1 := fun _ => z_hcE zK_0_56.2.2.1 (z_b1 (z_b2 (z_b2 (z_b2 (z_b2 (z_b2 (z_b2 (z_b2 zB_0_120))))))))
def zB_0_128 := z_b2 (z_b2 (z_b2 (z_b2 (z_b2 (z_b2 (z_b2 (z_b2 zB_0_120)))))))
theorem zy_90 : plainName (z_mY 90).cls = true ∧ (90 : Nat) ≠ 128 ∧ (90 : Nat) ≠ 299 := ⟨(z_b1 zB_0_128), by decide, by decide⟩
theorem zcl_90 : z_cls[8]? = some ((z_mY 90).cls, TX8, 11) := rfl
theorem zc_88 : ∀ m, z_ce m 88 2 := fun _ => z_hcE zK_0_56.2.2.2.1 (z_b1 (z_b2 zB_0_128))
theorem zy_88 : plainName (z_mY 88).cls = true ∧ (88 : Nat) ≠ 128 ∧ (88 : Nat) ≠ 299 := ⟨(z_b1 (z_b2 (z_b2 zB_0_128))), by decide, by decide⟩
theorem zcl_88 : z_cls[8]? = some ((z_mY 88).cls, TX8, 11) := rfl
theorem zc_28 : ∀ m, z_ce m 28 3 := fun _ => z_hcE zK_0_56.2.2.2.2.1 (z_b1 (z_b2 (z_b2 (z_b2 zB_0_128))))
theorem zy_28 : plainName (z_mY 28).cls = true ∧ (28 : Nat) ≠ 128 ∧ (28 : Nat) ≠ 299 := ⟨(z_b1 (z_b2 (z_b2 (z_b2 (z_b2 zB_0_128))))), by decide, by decide⟩
theorem zcl_28 : z_cls[3]? = some ((z_mY 28).cls, TX3, 2) := rfl
theorem zc_27 : ∀ m, z_ce m 27 3 := fun _ => z_hcE zK_0_56.2.2.2.2.2.1 (z_b1 (z_b2 (z_b2 (z_b2 (z_b2 (z_b2 zB_0_128))))))
theorem zy_27 : plainName (z_mY 27).cls = true ∧ (27 : Nat) ≠ 128 ∧ (27 : Nat) ≠ 299 := ⟨(z_b1 (z_b2 (z_b2 (z_b2 (z_b2 (z_b2 (z_b2 zB_0_128))))))), by decide, by decide⟩
theorem zcl_27 : z_cls[3]? = some ((z_mY 27).cls, TX3, 2) := rfl
theorem zc_96 : ∀ m, z_ce m 96 2 := fun _ => z_hcE zK_0_56.2.2.2.2.2.2.1 (z_b1 (z_b2 (z_b2 (z_b2 (z_b2 (z_b2 (z_b2 (z_b2 zB_0_128))))))))
def zB_0_136 := z_b2 (z_b2 (z_b2 (z_b2 (z_b2 (z_b2 (z_b2 (z_b2 zB_0_128)))))))
theorem zy_96 : plainName (z_mY 96).cls = true ∧ (96 : Nat) ≠ 128 ∧ (96 : Nat) ≠ 299 := ⟨(z_b1 zB_0_136), by decide, by decide⟩
theorem zcl_96 : z_cls[8]? = some ((z_mY 96).cls, TX8, 11) := rfl
theorem zc_100 : ∀ m, z_ce m 100 0 := fun _ => z_hcE zK_0_56.2.2.2.2.2.2.2.1 (z_b1 (z_b2 zB_0_136))
theorem zy_100 : plainName (z_mY 100).cls = true ∧ (100 : Nat) ≠ 128 ∧ (100 : Nat) ≠ 299 := ⟨(z_b1 (z_b2 (z_b2 zB_0_136))), by decide, by decide⟩
theorem zcl_100 : z_cls[8]? = some ((z_mY 100).cls, TX8, 11) := rfl
def zK_0_64 := zK_0_56.2.2.2.2.2.2.2.2
theorem zc_294 : ∀ m, z_ce m 294 1 := fun _ => z_hcE zK_0_64.1 (z_b1 (z_b2 (z_b2 (z_b2 zB_0_136))))
theorem zy_294 : plainName (z_mY 294).cls = true ∧ (294 : Nat) ≠ 128 ∧ (294 : Nat) ≠ 299 := ⟨(z_b1 (z_b2 (z_b2 (z_b2 (z_b2 zB_0_136))))), by decide, by decide⟩
theorem zc_94 : ∀ m, z_ce m 94 1 := fun _ => z_hcE zK_0_64.2.1 (z_b1 (z_b2 (z_b2 (z_b2 (z_b2 (z_b2 zB_0_136))))))
theorem zy_94 : plainName (z_mY 94).cls = true ∧ (94 : Nat) ≠ 128 ∧ (94 : Nat) ≠ 299 := ⟨(z_b1 (z_b2 (z_b2 (z_b2 (z_b2 (z_b2 (z_b2 zB_0_136))))))), by decide, by decide⟩
theorem zcl_94 : z_cls[8]? = some ((z_mY 94).cls, TX8, 11) := rfl
theorem zc_29 : ∀ m, z_ce m 29 2 := fun _ => z_hcE zK_0_64.2.2.1 (z_b1 (z_b2 (z_b2 (z_b2 (z_b2 (z_b2 (z_b2 (z_b2 zB_0_136))))))))
def zB_0_144 := z_b2 (z_b2 (z_b2 (z_b2 (z_b2 (z_b2 (z_b2 (z_b2 zB_0_136)))))))
theorem zy_29 : plainName (z_mY 29).cls = true ∧ (29 : Nat) ≠ 128 ∧ (29 : Nat) ≠ 299 := ⟨(z_b1 zB_0_144), by decide, by decide⟩
theorem zcl_29 : z_cls[3]? = some ((z_mY 29).cls, TX3, 2) := rfl
theorem zc_103 : ∀ m, z_ce m 103 1 := fun _ => z_hcE zK_0_64.2.2.2.1 (z_b1 (z_b2 zB_0_144))
theorem zy_103 : plainName (z_mY 103).cls = true ∧ (103 : Nat) ≠ 128 ∧ (103 : Nat) ≠ 299 := ⟨(z_b1 (z_b2 (z_b2 zB_0_144))), by decide, by decide⟩
theorem zcl_103 : z_cls[8]? = some ((z_mY 103).cls, TX8, 11) := rfl
theorem zc_104 : ∀ m, z_ce m 104 1 := fun _ => z_hcE zK_0_64.2.2.2.2.1 (z_b1 (z_b2 (z_b2 (z_b2 zB_0_144))))
theorem zy_104 : plainName (z_mY 104).cls = true ∧ (104 : Nat) ≠ 128 ∧ (104 : Nat) ≠ 299 := ⟨(z_b1 (z_b2 (z_b2 (z_b2 (z_b2 zB_0_144))))), by decide, by decide⟩
theorem zcl_104 : z_cls[8]? = some ((z_mY 104).cls, TX8, 11) := rfl
theorem zc_105 : ∀ m, z_ce m 105 0 := fun _ => z_hcE zK_0_64.2.2.2.2.2.1 (z_b1 (z_b2 (z_b2 (z_b2 (z_b2 (z_b2 zB_0_144))))))
theorem zy_105 : plainName (z_mY 105).cls = true ∧ (105 : Nat) ≠ 128 ∧ (105 : Nat) ≠ 299 := ⟨(z_b1 (z_b2 (z_b2 (z_b2 (z_b2 (z_b2 (z_b2 zB_0_144))))))), by decide, by decide⟩
theorem zcl_105 : z_cls[8]? = some ((z_mY 105).cls, TX8, 11) := rfl
theorem zc_109 : ∀ m, z_ce m 109 3 := fun _ => z_hcE zK_0_64.2.2.2.2.2.2.1 (z_b1 (z_b2 (z_b2 (z_b2 (z_b2 (z_b2 (z_b2 (z_b2 zB_0_144))))))))
def zB_0_152 := z_b2 (z_b2 (z_b2 (z_b2 (z_b2 (z_b2 (z_b2 (z_b2 zB_0_144)))))))
theorem zy_109 : plainName (z_mY 109).cls = true ∧ (109 : Nat) ≠ 128 ∧ (109 : Nat) ≠ 299 := ⟨(z_b1 zB_0_152), by decide, by decide⟩
theorem zcl_109 : z_cls[8]? = some ((z_mY 109).cls, TX8, 11) := rfl
theorem zw_1001 : Cond.methodLink (z_mY 109).cls 138 Lib.Math.min.name ∈ z_TB := z_inH (z_b1 (z_b2 zB_0_152))
theorem zc_111 : ∀ m, z_ce m 111 2 := fun _ => z_hcE zK_0_64.2.2.2.2.2.2.2.1 (z_b1 (z_b2 (z_b2 zB_0_152)))
theorem zy_111 : plainName (z_mY 111).cls = true ∧ (111 : Nat) ≠ 128 ∧ (111 : Nat) ≠ 299 := ⟨(z_b1 (z_b2 (z_b2 (z_b2 zB_0_152)))), by decide, by decide⟩
theorem zcl_111 : z_cls[8]? = some ((z_mY 111).cls, TX8, 11) := rfl
def zK_0_72 := zK_0_64.2.2.2.2.2.2.2.2
theorem zc_112 : ∀ m, z_ce m 112 3 := fun _ => z_hcE zK_0_72.1 (z_b1 (z_b2 (z_b2 (z_b2 (z_b2 zB_0_152)))))
theorem zy_112 : plainName (z_mY 112).cls = true ∧ (112 : Nat) ≠ 128 ∧ (112 : Nat) ≠ 299 := ⟨(z_b1 (z_b2 (z_b2 (z_b2 (z_b2 (z_b2 zB_0_152)))))), by decide, by decide⟩
theorem zcl_112 : z_cls[8]? = some ((z_mY 112).cls, TX8, 11) := rfl
theorem zc_116 : ∀ m, z_ce m 116 0 := fun _ => z_hcE zK_0_72.2.1 (z_b1 (z_b2 (z_b2 (z_b2 (z_b2 (z_b2 (z_b2 zB_0_152)))))))
theorem zy_116 : plainName (z_mY 116).cls = true ∧ (116 : Nat) ≠ 128 ∧ (116 : Nat) ≠ 299 := ⟨(z_b1 (z_b2 (z_b2 (z_b2 (z_b2 (z_b2 (z_b2 (z_b2 zB_0_152)))))))), by decide, by decide⟩
theorem zcl_116 : z_cls[10]? = some ((z_mY 116).cls, TX10, 2) := rfl
def zB_0_160 := z_b2 (z_b2 (z_b2 (z_b2 (z_b2 (z_b2 (z_b2 (z_b2 zB_0_152)))))))
theorem zc_66 : ∀ m, z_ce m 66 1 := fun _ => z_hcE zK_0_72.2.2.1 (z_b1 zB_0_160)
theorem zy_66 : plainName (z_mY 66).cls = true ∧ (66 : Nat) ≠ 128 ∧ (66 : Nat) ≠ 299 := ⟨(z_b1 (z_b2 zB_0_160)), by decide, by decide⟩
theorem zcl_66 : z_cls[7]? = some ((z_mY 66).cls, TX7, 7) := rfl
theorem zc_15 : ∀ m, z_ce m 15 0 := fun _ => z_hcE zK_0_72.2.2.2.1 (z_b1 (z_b2 (z_b2 zB_0_160)))
theorem zy_15 : plainName (z_mY 15).cls = true ∧ (15 : Nat) ≠ 128 ∧ (15 : Nat) ≠ 299 := ⟨(z_b1 (z_b2 (z_b2 (z_b2 zB_0_160)))), by decide, by decide⟩
theorem zcl_15 : z_cls[3]? = some ((z_mY 15).cls, TX3, 2) := rfl
theorem zc_85 : ∀ m, z_ce m 85 1 := fun _ => z_hcE zK_0_72.2.2.2.2.1 (z_b1 (z_b2 (z_b2 (z_b2 (z_b2 zB_0_160)))))
theorem zy_85 : plainName (z_mY 85).cls = true ∧ (85 : Nat) ≠ 128 ∧ (85 : Nat) ≠ 299 := ⟨(z_b1 (z_b2 (z_b2 (z_b2 (z_b2 (z_b2 zB_0_160)))))), by decide, by decide⟩
theorem zcl_85 : z_cls[8]? = some ((z_mY 85).cls, TX8, 11) := rfl
theorem zc_54 : ∀ m, z_ce m 54 0 := fun _ => z_hcE zK_0_72.2.2.2.2.2.1 (z_b1 (z_b2 (z_b2 (z_b2 (z_b2 (z_b2 (z_b2 zB_0_160)))))))
theorem zy_54 : plainName (z_mY 54).cls = true ∧ (54 : Nat) ≠ 128 ∧ (54 : Nat) ≠ 299 := ⟨(z_b1 (z_b2 (z_b2 (z_b2 (z_b2 (z_b2 (z_b2 (z_b2 zB_0_160)))))))), by decide, by decide⟩
theorem zcl_54 : z_cls[5]? = some ((z_mY 54).cls, TX5, 3) := rfl
def zB_0_168 := z_b2 (z_b2 (z_b2 (z_b2 (z_b2 (z_b2 (z_b2 (z_b2 zB_0_160)))))))
theorem zc_59 : ∀ m, z_ce m 59 0 := fun _ => z_hcE zK_0_72.2.2.2.2.2.2.1 (z_b1 zB_0_168)
theorem zy_59 : plainName (z_mY 59).cls = true ∧ (59 : Nat) ≠ 128 ∧ (59 : Nat) ≠ 299 := ⟨(z_b1 (z_b2 zB_0_168)), by decide, by decide⟩
theorem zcl_59 : z_cls[6]? = some ((z_mY 59).cls, TX6, 2) := rfl
theorem zc_0 : ∀ m, z_ce m 0 0 := fun _ => z_hcE zK_0_72.2.2.2.2.2.2.2.1 (z_b1 (z_b2 (z_b2 zB_0_168)))
theorem zy_0 : plainName (z_mY 0).cls = true ∧ (0 : Nat) ≠ 128 ∧ (0 : Nat) ≠ 299 := ⟨(z_b1 (z_b2 (z_b2 (z_b2 zB_0_168)))), by decide, by decide⟩
theorem zcl_0 : z_cls[0]? = some ((z_mY 0).cls, TX0, 7) := rfl
def zK_0_80 := zK_0_72.2.2.2.2.2.2.2.2
theorem zc_49 : ∀ m, z_ce m 49 0 := fun _ => z_hcE zK_0_80.1 (z_b1 (z_b2 (z_b2 (z_b2 (z_b2 zB_0_168)))))
theorem zy_49 : plainName (z_mY 49).cls = true ∧ (49 : Nat) ≠ 128 ∧ (49 : Nat) ≠ 299 := ⟨(z_b1 (z_b2 (z_b2 (z_b2 (z_b2 (z_b2 zB_0_168)))))), by decide, by decide⟩
theorem zcl_49 : z_cls[4]? = some ((z_mY 49).cls, TX4, 5) := rfl
theorem zc_8 : ∀ m, z_ce m 8 0 := fun _ => z_hcE zK_0_80.2.1 (z_b1 (z_b2 (z_b2 (z_b2 (z_b2 (z_b2 (z_b2 zB_0_168)))))))
theorem zy_8 : plainName (z_mY 8).cls = true ∧ (8 : Nat) ≠ 128 ∧ (8 : Nat) ≠ 299 := ⟨(z_b1 (z_b2 (z_b2 (z_b2 (z_b2 (z_b2 (z_b2 (z_b2 zB_0_168)))))))), by decide, by decide⟩
theorem zcl_8 : z_cls[1]? = some ((z_mY 8).cls, TX1, 2) := rfl
def zB_0_176 := z_b2 (z_b2 (z_b2 (z_b2 (z_b2 (z_b2 (z_b2 (z_b2 zB_0_168)))))))
theorem zc_117 : ∀ m, z_ce m 117 1 := fun _ => z_hcE zK_0_80.2.2.1 (z_b1 zB_0_176)
theorem zy_117 : plainName (z_mY 117).cls = true ∧ (117 : Nat) ≠ 128 ∧ (117 : Nat) ≠ 299 := ⟨(z_b1 (z_b2 zB_0_176)), by decide, by decide⟩
theorem zc_118 : ∀ m, z_ce m 118 1 := fun _ => z_hcE zK_0_80.2.2.2.1 (z_b1 (z_b2 (z_b2 zB_0_176)))
theorem zy_118 : plainName (z_mY 118).cls = true ∧ (118 : Nat) ≠ 128 ∧ (118 : Nat) ≠ 299 := ⟨(z_b1 (z_b2 (z_b2 (z_b2 zB_0_176)))), by decide, by decide⟩
theorem zcl_118 : z_cls[10]? = some ((z_mY 118).cls, TX10, 2) := rfl
theorem zc_67 : ∀ m, z_ce m 67 0 := fun _ => z_hcE zK_0_80.2.2.2.2.1 (z_b1 (z_b2 (z_b2 (z_b2 (z_b2 zB_0_176)))))
theorem zy_67 : plainName (z_mY 67).cls = true ∧ (67 : Nat) ≠ 128 ∧ (67 : Nat) ≠ 299 := ⟨(z_b1 (z_b2 (z_b2 (z_b2 (z_b2 (z_b2 zB_0_176)))))), by decide, by decide⟩
theorem zcl_67 : z_cls[7]? = some ((z_mY 67).cls, TX7, 7) := rfl
theorem zc_68 : ∀ m, z_ce m 68 0 := fun _ => z_hcE zK_0_80.2.2.2.2.2.1 (z_b1 (z_b2 (z_b2 (z_b2 (z_b2 (z_b2 (z_b2 zB_0_176)))))))
theorem zy_68 : plainName (z_mY 68).cls = true ∧ (68 : Nat) ≠ 128 ∧ (68 : Nat) ≠ 299 := ⟨(z_b1 (z_b2 (z_b2 (z_b2 (z_b2 (z_b2 (z_b2 (z_b2 zB_0_176)))))))), by decide, by decide⟩
theorem zcl_68 : z_cls[7]? = some ((z_mY 68).cls, TX7, 7) := rfl
def zB_0_184 := z_b2 (z_b2 (z_b2 (z_b2 (z_b2 (z_b2 (z_b2 (z_b2 zB_0_176)))))))
theorem zc_124 : ∀ m, z_ce m 124 0 := fun _ => z_hcE zK_0_80.2.2.2.2.2.2.1 (z_b1 zB_0_184)
theorem zy_124 : plainName (z_mY 124).cls = true ∧ (124 : Nat) ≠ 128 ∧ (124 : Nat) ≠ 299 := ⟨(z_b1 (z_b2 zB_0_184)), by decide, by decide⟩
theorem zcl_124 : z_cls[11]? = some ((z_mY 124).cls, TX11, 19) := rfl
theorem zc_125 : ∀ m, z_ce m 125 0 := fun _ => z_hcE zK_0_80.2.2.2.2.2.2.2.1 (z_b1 (z_b2 (z_b2 zB_0_184)))
theorem zy_125 : plainName (z_mY 125).cls = true ∧ (125 : Nat) ≠ 128 ∧ (125 : Nat) ≠ 299 := ⟨(z_b1 (z_b2 (z_b2 (z_b2 zB_0_184)))), by decide, by decide⟩
theorem zcl_125 : z_cls[11]? = some ((z_mY 125).cls, TX11, 19) := rfl
def zK_0_88 := zK_0_80.2.2.2.2.2.2.2.2
theorem zc_55 : ∀ m, z_ce m 55 0 := fun _ => z_hcE zK_0_88.1 (z_b1 (z_b2 (z_b2 (z_b2 (z_b2 zB_0_184)))))
theorem zy_55 : plainName (z_mY 55).cls = true ∧ (55 : Nat) ≠ 128 ∧ (55 : Nat) ≠ 299 := ⟨(z_b1 (z_b2 (z_b2 (z_b2 (z_b2 (z_b2 zB_0_184)))))), by decide, by decide⟩
theorem zcl_55 : z_cls[5]? = some ((z_mY 55).cls, TX5, 3) := rfl
theorem zc_60 : ∀ m, z_ce m 60 0 := fun _ => z_hcE zK_0_88.2.1 (z_b1 (z_b2 (z_b2 (z_b2 (z_b2 (z_b2 (z_b2 zB_0_184)))))))
theorem zy_60 : plainName (z_mY 60).cls = true ∧ (60 : Nat) ≠ 128 ∧ (60 : Nat) ≠ 299 := ⟨(z_b1 (z_b2 (z_b2 (z_b2 (z_b2 (z_b2 (z_b2 (z_b2 zB_0_184)))))))), by decide, by decide⟩
theorem zcl_60 : z_cls[6]? = some ((z_mY 60).cls, TX6, 2) := rfl
def zB_0_192 := z_b2 (z_b2 (z_b2 (z_b2 (z_b2 (z_b2 (z_b2 (z_b2 zB_0_184)))))))
theorem zc_16 : ∀ m, z_ce m 16 0 := fun _ => z_hcE zK_0_88.2.2.1 (z_b1 zB_0_192)
theorem zy_16 : plainName (z_mY 16).cls = true ∧ (16 : Nat) ≠ 128 ∧ (16 : Nat) ≠ 299 := ⟨(z_b1 (z_b2 zB_0_192)), by decide, by decide⟩
theorem zcl_16 : z_cls[3]? = some ((z_mY 16).cls, TX3, 2) := rfl
theorem zc_35 : ∀ m, z_ce m 35 1 := fun _ => z_hcE zK_0_88.2.2.2.1 (z_b1 (z_b2 (z_b2 zB_0_192)))
theorem zy_35 : plainName (z_mY 35).cls = true ∧ (35 : Nat) ≠ 128 ∧ (35 : Nat) ≠ 299 := ⟨(z_b1 (z_b2 (z_b2 (z_b2 zB_0_192)))), by decide, by decide⟩
theorem zcl_35 : z_cls[3]? = some ((z_mY 35).cls, TX3, 2) := rfl
theorem zc_40 : ∀ m, z_ce m 40 1 := fun _ => z_hcE zK_0_88.2.2.2.2.1 (z_b1 (z_b2 (z_b2 (z_b2 (z_b2 zB_0_192)))))
theorem zy_40 : plainName (z_mY 40).cls = true ∧ (40 : Nat) ≠ 128 ∧ (40 : Nat) ≠ 299 := ⟨(z_b1 (z_b2 (z_b2 (z_b2 (z_b2 (z_b2 zB_0_192)))))), by decide, by decide⟩
theorem zcl_40 : z_cls[3]? = some ((z_mY 40).cls, TX3, 2) := rfl
theorem zc_114 : ∀ m, z_ce m 114 1 := fun _ => z_hcE zK_0_88.2.2.2.2.2.1 (z_b1 (z_b2 (z_b2 (z_b2 (z_b2 (z_b2 (z_b2 zB_0_192)))))))
theorem zy_114 : plainName (z_mY 114).cls = true ∧ (114 : Nat) ≠ 128 ∧ (114 : Nat) ≠ 299 := ⟨(z_b1 (z_b2 (z_b2 (z_b2 (z_b2 (z_b2 (z_b2 (z_b2 zB_0_192)))))))), by decide, by decide⟩
set_option maxRecDepth 100000 in
theorem zB_1_0 : (decide (z_hc 45 0) && (decide (plainName (z_mY 45).cls = true) && (decide (z_hc 46 0) && (decide (plainName (z_mY 46).cls = true) && (decide (z_hc 127 0) && (decide (plainName (z_mY 127).cls = true) && (decide (z_hc 168 0) && (decide (plainName (z_mY 168).cls = true) && (decide (z_hc 93 1) && (decide (plainName (z_mY 93).cls = true) && (decide (z_hc 169 1) && (decide (plainName (z_mY 169).cls = true) && (decide (z_hc 95 3) && (decide (plainName (z_mY 95).cls = true) && (decide (z_hc 9 1) && (decide (plainName (z_mY 9).cls = true) && (decide (z_hc 10 1) && (decide (plainName (z_mY 10).cls = true) && (decide (z_hc 141 0) && (decide (plainName (z_mY 141).cls = true) && (decide (z_hc 142 0) && (decide (plainName (z_mY 142).cls = true) && (decide (z_hc 56 1) && (decide (plainName (z_mY 56).cls = true) && (decide (z_hc 7 1) && (decide (plainName (z_mY 7).cls = true) && (decide (z_hc 62 3) && (decide (plainName (z_mY 62).cls = true) && (decide (z_hc 13 1) && (decide (plainName (z_mY 13).cls = true) && (decide (z_hc 144 1) && (decide (plainName (z_mY 144).cls = true) && (decide (z_hc 14 1) && (decide (plainName (z_mY 14).cls = true) && (decide (z_hc 145 1) && (decide (plainName (z_mY 145).cls = true) && (decide (z_hc 58 1) && (decide (plainName (z_mY 58).cls = true) && (decide (z_hc 63 0) && (decide (plainName (z_mY 63).cls = true) && (decide (z_hc 65 2) && (decide (plainName (z_mY 65).cls = true) && (decide (z_hc 102 0) && (decide (plainName (z_mY 102).cls = true) && (decide (z_hc 50 2) && (decide (plainName (z_mY 50).cls = true) && (decide (z_hc 108 1) && (decide (plainName (z_mY 108).cls = true) && (decide (z_hc 110 1) && (decide (plainName (z_mY 110).cls = true) && (decide (z_hc 98 0) && (decide (plainName (z_mY 98).cls = true) && (decide (z_hc 99 0) && (decide (plainName (z_mY 99).cls = true) && (decide (z_hc 17 1) && (decide (plainName (z_mY 17).cls = true) && (decide (z_hc 86 0) && (decide (plainName (z_mY 86).cls = true) && (decide (z_hc 30 3) && (decide (plainName (z_mY 30).cls = true) && (decide (z_hc 161 1) && (decide (plainName (z_mY 161).cls = true) && (decide (z_hc 115 2) && (decide (plainName (z_mY 115).cls = true) && (decide (z_hc 160 1) && (decide (plainName (z_mY 160).cls = true) && (decide (z_hc 5 2) && (decide (plainName (z_mY 5).cls = true) && (decide (z_hc 97 0) && (decide (plainName (z_mY 97).cls = true) && (decide (z_hc 106 0) && (decide (plainName (z_mY 106).cls = true) && (decide (z_hc 101 0) && (decide (plainName (z_mY 101).cls = true) && (decide (z_hc 107 0) && (decide (plainName (z_mY 107).cls = true) && (decide (z_hc 47 0) && (decide (plainName (z_mY 47).cls = true) && (decide (z_hc 48 0) && (decide (plainName (z_mY 48).cls = true) && (decide (z_hc 61 1) && (decide (plainName (z_mY 61).cls = true) && (decide (z_hc 174 6) && (decide (plainName (z_mY 174).cls = true) && (decide (z_hc 170 3) && (decide (plainName (z_mY 170).cls = true) && (decide (z_hc 177 0) && (decide (plainName (z_mY 177).cls = true) && (decide (z_hc 180 1) && (decide (plainName (z_mY 180).cls = true) && (decide (z_hc 179 0) && (decide (plainName (z_mY 179).cls = true) && (decide (z_hc 178 0) && (decide (plainName (z_mY 178).cls = true) && (decide (z_hc 182 2) && (decide (plainName (z_mY 182).cls = true) && (decide (z_hc 185 0) && (decide (plainName (z_mY 185).cls = true) && (decide (z_hc 183 2) && (decide (plainName (z_mY 183).cls = true) && (decide (z_hc 181 1) && (decide (plainName (z_mY 181).cls = true) && (decide (z_hc 186 2) && (decide (plainName (z_mY 186).cls = true) && (decide (z_hc 187 0) && (decide (plainName (z_mY 187).cls = true) && (decide (z_hc 188 0) && (decide (plainName (z_mY 188).cls = true) && (decide (z_hc 184 1) && (decide (plainName (z_mY 184).cls = true) && (decide (z_hc 190 1) && (decide (plainName (z_mY 190).cls = true) && (decide (z_hc 189 0) && (decide (plainName (z_mY 189).cls = true) && (decide (z_hc 191 1) && (decide (plainName (z_mY 191).cls = true) && (decide (z_hc 198 1) && (decide (plainName (z_mY 198).cls = true) && (decide (z_hw 1458 (Cond.methodLink (z_mY 200).cls 171 Lib.Math.min.name)) && (decide (z_hw 1459 (Cond.methodLink (z_mY 200).cls 176 Lib.Math.max.name)) && (decide (z_hc 196 2) && (decide (plainName (z_mY 196).cls = true) && (decide (z_hc 199 6) && (decide (plainName (z_mY 199).cls = true) && (decide (z_hc 200 4) && (decide (plainName (z_mY 200).cls = true) && (decide (z_hc 195 1) && (decide (plainName (z_mY 195).cls = true) && (decide (z_hc 201 5) && (decide (plainName (z_mY 201).cls = true) && (decide (z_hc 204 3) && (decide (plainName (z_mY 204).cls = true) && (decide (z_hc 203 1) && (decide (plainName (z_mY 203).cls = true) && (decide (z_hc 205 2) && (decide (plainName (z_mY 205).cls = true) && (decide (z_hc 194 2) && (decide (plainName (z_mY 194).cls = true) && (decide (z_hc 206 0) && (decide (plainName (z_mY 206).cls = true) && (decide (z_hc 208 1) && (decide (plainName (z_mY 208).cls = true) && (decide (z_hc 209 3) && (decide (plainName (z_mY 209).cls = true) && (decide (z_hc 210 2) && (decide (plainName (z_mY 210).cls = true) && (decide (z_hc 211 2) && (decide (plainName (z_mY 211).cls = true) && (decide (z_hc 197 1) && (decide (plainName (z_mY 197).cls = true) && (decide (z_hc 212 2) && (decide (plainName (z_mY 212).cls = true) && (decide (z_hc 214 2) && (decide (plainName (z_mY 214).cls = true) && (decide (z_hc 171 2) && (decide (plainName (z_mY 171).cls = true) && (decide (z_hc 216 2) && (decide (plainName (z_mY 216).cls = true) && (decide (z_hc 215 1) && (decide (plainName (z_mY 215).cls = true) && (decide (z_hc 218 3) && (decide (plainName (z_mY 218).cls = true) && (decide (z_hc 222 0) && (decide (plainName (z_mY 222).cls = true) && (decide (z_hc 221 1) && (decide (plainName (z_mY 221).cls = true) && (decide (z_hc 228 5) && (decide (plainName (z_mY 228).cls = true) && (decide (z_hc 224 5) && (decide (plainName (z_mY 224).cls = true) && (decide (z_hc 223 0) && (decide (plainName (z_mY 223).cls = true) && (decide (z_hc 225 0) && (decide (plainName (z_mY 225).cls = true) && (decide (z_hc 227 2) && (decide (plainName (z_mY 227).cls = true) && (decide (z_hc 202 4) && (decide (plainName (z_mY 202).cls = true) && (decide (z_hc 193 1) && (decide (plainName (z_mY 193).cls = true) && (decide (z_hc 229 2) && (decide (plainName (z_mY 229).cls = true) && (decide (z_hc 231 2) && (decide (plainName (z_mY 231).cls = true) && (decide (z_hc 207 0) && (decide (plainName (z_mY 207).cls = true) && (decide (z_hc 234 0) && (decide (plainName (z_mY 234).cls = true) && (decide (z_hc 233 0) && (decide (plainName (z_mY 233).cls = true) && (decide (z_hc 232 6) && (decide (plainName (z_mY 232).cls = true) && (decide (z_hc 235 2) && (decide (plainName (z_mY 235).cls = true) && (decide (z_hc 230 6) && (decide (plainName (z_mY 230).cls = true) && (decide (z_hc 236 6) && (decide (plainName (z_mY 236).cls = true) && (decide (z_hc 237 6) && (decide (plainName (z_mY 237).cls = true) && (true))))))))))))))))))))))))))))))))))))))))))))))))))))))))))))))))))))))))))))))))))))))))))))))))))))))))))))))))))))))))))))))))))))))))))))))))))))))))))))))))))))))))))))))))))))))))))))))))))))))))) = true := by decide +kernel
set_option maxRecDepth 100000 in
theorem zK_1_0 : z_hk 674 45 ∧ z_hk 688 46 ∧ z_hk 698 127 ∧ z_hk 706 168 ∧ z_hk 1208 93 ∧ z_hk 766 169 ∧ z_hk 784 95 ∧ z_hk 844 9 ∧ z_hk 855 10 ∧ z_hk 865 141 ∧ z_hk 869 142 ∧ z_hk 873 56 ∧ z_hk 879 7 ∧ z_hk 883 62 ∧ z_hk 907 13 ∧ z_hk 916 144 ∧ z_hk 920 14 ∧ z_hk 926 145 ∧ z_hk 938 58 ∧ z_hk 943 63 ∧ z_hk 952 65 ∧ z_hk 966 102 ∧ z_hk 974 50 ∧ z_hk 996 108 ∧ z_hk 1005 110 ∧ z_hk 1021 98 ∧ z_hk 1025 99 ∧ z_hk 1033 17 ∧ z_hk 710 86 ∧ z_hk 1046 30 ∧ z_hk 1058 161 ∧ z_hk 1063 115 ∧ z_hk 1072 160 ∧ z_hk 1076 5 ∧ z_hk 1089 97 ∧ z_hk 1093 106 ∧ z_hk 1098 101 ∧ z_hk 1104 107 ∧ z_hk 1108 47 ∧ z_hk 1112 48 ∧ z_hk 1120 61 ∧ z_hk 1339 174 ∧ z_hk 1346 170 ∧ z_hk 1366 177 ∧ z_hk 1389 180 ∧ z_hk 1378 179 ∧ z_hk 1362 178 ∧ z_hk 1386 182 ∧ z_hk 1374 185 ∧ z_hk 1382 183 ∧ z_hk 1396 181 ∧ z_hk 1370 186 ∧ z_hk 1393 187 ∧ z_hk 1358 188 ∧ z_hk 1409 184 ∧ z_hk 1404 190 ∧ z_hk 1354 189 ∧ z_hk 1400 191 ∧ z_hk 1454 198 ∧ z_hk 1448 196 ∧ z_hk 1451 199 ∧ z_hk 1457 200 ∧ z_hk 1440 195 ∧ z_hk 1444 201 ∧ z_hk 1535 204 ∧ z_hk 1527 203 ∧ z_hk 1531 205 ∧ z_hk 1432 194 ∧ z_hk 1523 206 ∧ z_hk 1604 208 ∧ z_hk 1632 209 ∧ z_hk 1628 210 ∧ z_hk 1624 211 ∧ z_hk 1640 197 ∧ z_hk 1636 212 ∧ z_hk 1668 214 ∧ z_hk 1683 171 ∧ z_hk 1680 216 ∧ z_hk 1664 215 ∧ z_hk 1707 218 ∧ z_hk 1463 222 ∧ z_hk 1421 221 ∧ z_hk 1425 228 ∧ z_hk 1467 224 ∧ z_hk 1471 223 ∧ z_hk 1417 225 ∧ z_hk 1428 227 ∧ z_hk 1436 202 ∧ z_hk 1487 193 ∧ z_hk 1491 229 ∧ z_hk 1507 231 ∧ z_hk 1519 207 ∧ z_hk 1515 234 ∧ z_hk 1499 233 ∧ z_hk 1503 232 ∧ z_hk 1511 235 ∧ z_hk 1483 230 ∧ z_hk 1495 236 ∧ z_hk 1479 237 ∧ True := ⟨rfl, rfl, rfl, rfl, rfl, rfl, rfl, rfl, rfl, rfl, rfl, rfl, rfl, rfl, rfl, rfl, rfl, rfl, rfl, rfl, rfl, rfl, rfl, rfl, rfl, rfl, rfl, rfl, rfl, rfl, rfl, rfl, rfl, rfl, rfl, rfl, rfl, rfl, rfl, rfl, rfl, rfl, rfl, rfl, rfl, rfl, rfl, rfl, rfl, rfl, rfl, rfl, rfl, rfl, rfl, rfl, rfl, rfl, rfl, rfl, rfl, rfl, rfl, rfl, rfl, rfl, rfl, rfl, rfl, rfl, rfl, rfl, rfl, rfl, rfl, rfl, rfl, rfl, rfl, rfl, rfl, rfl, rfl, rfl, rfl, rfl, rfl, rfl, rfl, rfl, rfl, rfl, rfl, rfl, rfl, rfl, rfl, rfl, rfl, trivial⟩
theorem zcl_114 : z_cls[9]? = some ((z_mY 114).cls, TX9, 2) := rfl
theorem zc_45 : ∀ m, z_ce m 45 0 := fun _ => z_hcE zK_1_0.1 (z_b1 zB_1_0)
theorem zy_45 : plainName (z_mY 45).cls = true ∧ (45 : Nat) ≠ 128 ∧ (45 : Nat) ≠ 299 := ⟨(z_b1 (z_b2 zB_1_0)), by decide, by decide⟩
theorem zcl_45 : z_cls[3]? = some ((z_mY 45).cls, TX3, 2) := rfl
theorem zc_46 : ∀ m, z_ce m 46 0 := fun _ => z_hcE zK_1_0.2.1 (z_b1 (z_b2 (z_b2 zB_1_0)))
theorem zy_46 : plainName (z_mY 46).cls = true ∧ (46 : Nat) ≠ 128 ∧ (46 : Nat) ≠ 299 := ⟨(z_b1 (z_b2 (z_b2 (z_b2 zB_1_0)))), by decide, by decide⟩
theorem zcl_46 : z_cls[3]? = some ((z_mY 46).cls, TX3, 2) := rfl
theorem zc_127 : ∀ m, z_ce m 127 0 := fun _ => z_hcE zK_1_0.2.2.1 (z_b1 (z_b2 (z_b2 (z_b2 (z_b2 zB_1_0)))))
theorem zy_127 : plainName (z_mY 127).cls = true ∧ (127 : Nat) ≠ 128 ∧ (127 : Nat) ≠ 299 := ⟨(z_b1 (z_b2 (z_b2 (z_b2 (z_b2 (z_b2 zB_1_0)))))), by decide, by decide⟩
theorem zcl_127 : z_cls[11]? = some ((z_mY 127).cls, TX11, 19) := rfl
theorem zc_168 : ∀ m, z_ce m 168 0 := fun _ => z_hcE zK_1_0.2.2.2.1 (z_b1 (z_b2 (z_b2 (z_b2 (z_b2 (z_b2 (z_b2 zB_1_0)))))))
theorem zy_168 : plainName (z_mY 168).cls = true ∧ (168 : Nat) ≠ 128 ∧ (168 : Nat) ≠ 299 := ⟨(z_b1 (z_b2 (z_b2 (z_b2 (z_b2 (z_b2 (z_b2 (z_b2 zB_1_0)))))))), by decide, by decide⟩
theorem zcl_168 : z_cls[11]? = some ((z_mY 168).cls, TX11, 19) := rfl
def zB_1_8 := z_b2 (z_b2 (z_b2 (z_b2 (z_b2 (z_b2 (z_b2 (z_b2 zB_1_0)))))))
theorem zc_93 : ∀ m, z_ce m 93 1 := fun _ => z_hcE zK_1_0.2.2.2.2.1 (z_b1 zB_1_8)
theorem zy_93 : plainName (z_mY 93).cls = true ∧ (93 : Nat) ≠ 128 ∧ (93 : Nat) ≠ 299 := ⟨(z_b1 (z_b2 zB_1_8)), by decide, by decide⟩
theorem zcl_93 : z_cls[8]? = some ((z_mY 93).cls, TX8, 11) := rfl
theorem zc_169 : ∀ m, z_ce m 169 1 := fun _ => z_hcE zK_1_0.2.2.2.2.2.1 (z_b1 (z_b2 (z_b2 zB_1_8)))
theorem zy_169 : plainName (z_mY 169).cls = true ∧ (169 : Nat) ≠ 128 ∧ (169 : Nat) ≠ 299 := ⟨(z_b1 (z_b2 (z_b2 (z_b2 zB_1_8)))), by decide, by decide⟩
theorem zcl_169 : z_cls[11]? = some ((z_mY 169).cls, TX11, 19) := rfl
theorem zc_95 : ∀ m, z_ce m 95 3 := fun _ => z_hcE zK_1_0.2.2.2.2.2.2.1 (z_b1 (z_b2 (z_b2 (z_b2 (z_b2 zB_1_8)))))
theorem zy_95 : plainName (z_mY 95).cls = true ∧ (95 : Nat) ≠ 128 ∧ (95 : Nat) ≠ 299 := ⟨(z_b1 (z_b2 (z_b2 (z_b2 (z_b2 (z_b2 zB_1_8)))))), by decide, by decide⟩
theorem zcl_95 : z_cls[8]? = some ((z_mY 95).cls, TX8, 11) := rfl
theorem zc_9 : ∀ m, z_ce m 9 1 := fun _ => z_hcE zK_1_0.2.2.2.2.2.2.2.1 (z_b1 (z_b2 (z_b2 (z_b2 (z_b2 (z_b2 (z_b2 zB_1_8)))))))
theorem zy_9 : plainName (z_mY 9).cls = true ∧ (9 : Nat) ≠ 128 ∧ (9 : Nat) ≠ 299 := ⟨(z_b1 (z_b2 (z_b2 (z_b2 (z_b2 (z_b2 (z_b2 (z_b2 zB_1_8)))))))), by decide, by decide⟩
theorem zcl_9 : z_cls[1]? = some ((z_mY 9).cls, TX1, 2) := rfl
def zK_1_8 := zK_1_0.2.2.2.2.2.2.2.2
def zB_1_16 := z_b2 (z_b2 (z_b2 (z_b2 (z_b2 (z_b2 (z_b2 (z_b2 zB_1_8)))))))
theorem zc_10 : ∀ m, z_ce m 10 1 := fun _ => z_hcE zK_1_8.1 (z_b1 zB_1_16)
theorem zy_10 : plainName (z_mY 10).cls = true ∧ (10 : Nat) ≠ 128 ∧ (10 : Nat) ≠ 299 := ⟨(z_b1 (z_b2 zB_1_16)), by decide, by decide⟩
theorem zcl_10 : z_cls[1]? = some ((z_mY 10).cls, TX1, 2) := rfl
theorem zc_141 : ∀ m, z_ce m 141 0 := fun _ => z_hcE zK_1_8.2.1 (z_b1 (z_b2 (z_b2 zB_1_16)))
theorem zy_141 : plainName (z_mY 141).cls = true ∧ (141 : Nat) ≠ 128 ∧ (141 : Nat) ≠ 299 := ⟨(z_b1 (z_b2 (z_b2 (z_b2 zB_1_16)))), by decide, by decide⟩
theorem zcl_141 : z_cls[11]? = some ((z_mY 141).cls, TX11, 19) := rfl
theorem zc_142 : ∀ m, z_ce m 142 0 := fun _ => z_hcE zK_1_8.2.2.1 (z_b1 (z_b2 (z_b2 (z_b2 (z_b2 zB_1_16)))))
theorem zy_142 : plainName (z_mY 142).cls = true ∧ (142 : Nat) ≠ 128 ∧ (142 : Nat) ≠ 299 := ⟨(z_b1 (z_b2 (z_b2 (z_b2 (z_b2 (z_b2 zB_1_16)))))), by decide, by decide⟩
theorem zcl_142 : z_cls[11]? = some ((z_mY 142).cls, TX11, 19) := rfl
theorem zc_56 : ∀ m, z_ce m 56 1 := fun _ => z_hcE zK_1_8.2.2.2.1 (z_b1 (z_b2 (z_b2 (z_b2 (z_b2 (z_b2 (z_b2 zB_1_16)))))))
theorem zy_56 : plainName (z_mY 56).cls = true ∧ (56 : Nat) ≠ 128 ∧ (56 : Nat) ≠ 299 := ⟨(z_b1 (z_b2 (z_b2 (z_b2 (z_b2 (z_b2 (z_b2 (z_b2 zB_1_16)))))))), by decide, by decide⟩
theorem zcl_56 : z_cls[5]? = some ((z_mY 56).cls, TX5, 3) := rfl
def zB_1_24 := z_b2 (z_b2 (z_b2 (z_b2 (z_b2 (z_b2 (z_b2 (z_b2 zB_1_16)))))))
theorem zc_7 : ∀ m, z_ce m 7 1 := fun _ => z_hcE zK_1_8.2.2.2.2.1 (z_b1 zB_1_24)
theorem zy_7 : plainName (z_mY 7).cls = true ∧ (7 : Nat) ≠ 128 ∧ (7 : Nat) ≠ 299 := ⟨(z_b1 (z_b2 zB_1_24)), by decide, by decide⟩
theorem zcl_7 : z_cls[0]? = some ((z_mY 7).cls, TX0, 7) := rfl
theorem zc_62 : ∀ m, z_ce m 62 3 := fun _ => z_hcE zK_1_8.2.2.2.2.2.1 (z_b1 (z_b2 (z_b2 zB_1_24)))
theorem zy_62 : plainName (z_mY 62).cls = true ∧ (62 : Nat) ≠ 128 ∧ (62 : Nat) ≠ 299 := ⟨(z_b1 (z_b2 (z_b2 (z_b2 zB_1_24)))), by decide, by decide⟩
theorem zcl_62 : z_cls[6]? = some ((z_mY 62).cls, TX6, 2) := rfl
theorem zc_13 : ∀ m, z_ce m 13 1 := fun _ => z_hcE zK_1_8.2.2.2.2.2.2.1 (z_b1 (z_b2 (z_b2 (z_b2 (z_b2 zB_1_24)))))
theorem zy_13 : plainName (z_mY 13).cls = true ∧ (13 : Nat) ≠ 128 ∧ (13 : Nat) ≠ 299 := ⟨(z_b1 (z_b2 (z_b2 (z_b2 (z_b2 (z_b2 zB_1_24)))))), by decide, by decide⟩
theorem zcl_13 : z_cls[2]? = some ((z_mY 13).cls, TX2, 1) := rfl
theorem zc_144 : ∀ m, z_ce m 144 1 := fun _ => z_hcE zK_1_8.2.2.2.2.2.2.2.1 (z_b1 (z_b2 (z_b2 (z_b2 (z_b2 (z_b2 (z_b2 zB_1_24)))))))
theorem zy_144 : plainName (z_mY 144).cls = true ∧ (144 : Nat) ≠ 128 ∧ (144 : Nat) ≠ 299 := ⟨(z_b1 (z_b2 (z_b2 (z_b2 (z_b2 (z_b2 (z_b2 (z_b2 zB_1_24)))))))), by decide, by decide⟩
theorem zcl_144 : z_cls[11]? = some ((z_mY 144).cls, TX11, 19) := rfl
def zK_1_16 := zK_1_8.2.2.2.2.2.2.2.2
def zB_1_32 := z_b2 (z_b2 (z_b2 (z_b2 (z_b2 (z_b2 (z_b2 (z_b2 zB_1_24)))))))
theorem zc_14 : ∀ m, z_ce m 14 1 := fun _ => z_hcE zK_1_16.1 (z_b1 zB_1_32)
theorem zy_14 : plainName (z_mY 14).cls = true ∧ (14 : Nat) ≠ 128 ∧ (14 : Nat) ≠ 299 := ⟨(z_b1 (z_b2 zB_1_32)), by decide, by decide⟩
theorem zcl_14 : z_cls[2]? = some ((z_mY 14).cls, TX2, 1) := rfl
theorem zc_145 : ∀ m, z_ce m 145 1 := fun _ => z_hcE zK_1_16.2.1 (z_b1 (z_b2 (z_b2 zB_1_32)))
theorem zy_145 : plainName (z_mY 145).cls = true ∧ (145 : Nat) ≠ 128 ∧ (145 : Nat) ≠ 299 := ⟨(z_b1 (z_b2 (z_b2 (z_b2 zB_1_32)))), by decide, by decide⟩
theorem zcl_145 : z_cls[11]? = some ((z_mY 145).cls, TX11, 19) := rfl
theorem zc_58 : ∀ m, z_ce m 58 1 := fun _ => z_hcE zK_1_16.2.2.1 (z_b1 (z_b2 (z_b2 (z_b2 (z_b2 zB_1_32)))))
theorem zy_58 : plainName (z_mY 58).cls = true ∧ (58 : Nat) ≠ 128 ∧ (58 : Nat) ≠ 299 := ⟨(z_b1 (z_b2 (z_b2 (z_b2 (z_b2 (z_b2 zB_1_32)))))), by decide, by decide⟩
theorem zcl_58 : z_cls[5]? = some ((z_mY 58).cls, TX5, 3) := rfl
theorem zc_63 : ∀ m, z_ce m 63 0 := fun _ => z_hcE zK_1_16.2.2.2.1 (z_b1 (z_b2 (z_b2 (z_b2 (z_b2 (z_b2 (z_b2 zB_1_32)))))))
theorem zy_63 : plainName (z_mY 63).cls = true ∧ (63 : Nat) ≠ 128 ∧ (63 : Nat) ≠ 299 := ⟨(z_b1 (z_b2 (z_b2 (z_b2 (z_b2 (z_b2 (z_b2 (z_b2 zB_1_32)))))))), by decide, by decide⟩
theorem zcl_63 : z_cls[6]? = some ((z_mY 63).cls, TX6, 2) := rfl
def zB_1_40 := z_b2 (z_b2 (z_b2 (z_b2 (z_b2 (z_b2 (z_b2 (z_b2 zB_1_32)))))))
theorem zc_65 : ∀ m, z_ce m 65 2 := fun _ => z_hcE zK_1_16.2.2.2.2.1 (z_b1 zB_1_40)
theorem zy_65 : plainName (z_mY 65).cls = true ∧ (65 : Nat) ≠ 128 ∧ (65 : Nat) ≠ 299 := ⟨(z_b1 (z_b2 zB_1_40)), by decide, by decide⟩
theorem zcl_65 : z_cls[6]? = some ((z_mY 65).cls, TX6, 2) := rfl
theorem zc_102 : ∀ m, z_ce m 102 0 := fun _ => z_hcE zK_1_16.2.2.2.2.2.1 (z_b1 (z_b2 (z_b2 zB_1_40)))
theorem zy_102 : plainName (z_mY 102).cls = true ∧ (102 : Nat) ≠ 128 ∧ (102 : Nat) ≠ 299 := ⟨(z_b1 (z_b2 (z_b2 (z_b2 zB_1_40)))), by decide, by decide⟩
theorem zcl_102 : z_cls[8]? = some ((z_mY 102).cls, TX8, 11) := rfl
theorem zc_50 : ∀ m, z_ce m 50 2 := fun _ => z_hcE zK_1_16.2.2.2.2.2.2.1 (z_b1 (z_b2 (z_b2 (z_b2 (z_b2 zB_1_40)))))
theorem zy_50 : plainName (z_mY 50).cls = true ∧ (50 : Nat) ≠ 128 ∧ (50 : Nat) ≠ 299 := ⟨(z_b1 (z_b2 (z_b2 (z_b2 (z_b2 (z_b2 zB_1_40)))))), by decide, by decide⟩
theorem zcl_50 : z_cls[4]? = some ((z_mY 50).cls, TX4, 5) := rfl
theorem zc_108 : ∀ m, z_ce m 108 1 := fun _ => z_hcE zK_1_16.2.2.2.2.2.2.2.1 (z_b1 (z_b2 (z_b2 (z_b2 (z_b2 (z_b2 (z_b2 zB_1_40)))))))
theorem zy_108 : plainName (z_mY 108).cls = true ∧ (108 : Nat) ≠ 128 ∧ (108 : Nat) ≠ 299 := ⟨(z_b1 (z_b2 (z_b2 (z_b2 (z_b2 (z_b2 (z_b2 (z_b2 zB_1_40)))))))), by decide, by decide⟩
theorem zcl_108 : z_cls[8]? = some ((z_mY 108).cls, TX8, 11) := rfl
def zK_1_24 := zK_1_16.2.2.2.2.2.2.2.2
def zB_1_48 := z_b2 (z_b2 (z_b2 (z_b2 (z_b2 (z_b2 (z_b2 (z_b2 zB_1_40)))))))
theorem zc_110 : ∀ m, z_ce m 110 1 := fun _ => z_hcE zK_1_24.1 (z_b1 zB_1_48)
theorem zy_110 : plainName (z_mY 110).cls = true ∧ (110 : Nat) ≠ 128 ∧ (110 : Nat) ≠ 299 := ⟨(z_b1 (z_b2 zB_1_48)), by decide, by decide⟩
theorem zcl_110 : z_cls[8]? = some ((z_mY 110).cls, TX8, 11) := rfl
theorem zc_98 : ∀ m, z_ce m 98 0 := fun _ => z_hcE zK_1_24.2.1 (z_b1 (z_b2 (z_b2 zB_1_48)))
theorem zy_98 : plainName (z_mY 98).cls = true ∧ (98 : Nat) ≠ 128 ∧ (98 : Nat) ≠ 299 := ⟨(z_b1 (z_b2 (z_b2 (z_b2 zB_1_48)))), by decide, by decide⟩
theorem zcl_98 : z_cls[8]? = some ((z_mY 98).cls, TX8, 11) := rfl
theorem zc_99 : ∀ m, z_ce m 99 0 := fun _ => z_hcE zK_1_24.2.2.1 (z_b1 (z_b2 (z_b2 (z_b2 (z_b2 zB_1_48)))))
theorem zy_99 : plainName (z_mY 99).cls = true ∧ (99 : Nat) ≠ 128 ∧ (99 : Nat) ≠ 299 := ⟨(z_b1 (z_b2 (z_b2 (z_b2 (z_b2 (z_b2 zB_1_48)))))), by decide, by decide⟩
theorem zcl_99 : z_cls[8]? = some ((z_mY 99).cls, TX8, 11) := rfl
theorem zc_17 : ∀ m, z_ce m 17 1 := fun _ => z_hcE zK_1_24.2.2.2.1 (z_b1 (z_b2 (z_b2 (z_b2 (z_b2 (z_b2 (z_b2 zB_1_48)))))))
theorem zy_17 : plainName (z_mY 17).cls = true ∧ (17 : Nat) ≠ 128 ∧ (17 : Nat) ≠ 299 := ⟨(z_b1 (z_b2 (z_b2 (z_b2 (z_b2 (z_b2 (z_b2 (z_b2 zB_1_48)))))))), by decide, by decide⟩
theorem zcl_17 : z_cls[3]? = some ((z_mY 17).cls, TX3, 2) := rfl
def zB_1_56 := z_b2 (z_b2 (z_b2 (z_b2 (z_b2 (z_b2 (z_b2 (z_b2 zB_1_48)))))))
theorem zc_86 : ∀ m, z_ce m 86 0 := fun _ => z_hcE zK_1_24.2.2.2.2.1 (z_b1 zB_1_56)
theorem zy_86 : plainName (z_mY 86).cls = true ∧ (86 : Nat) ≠ 128 ∧ (86 : Nat) ≠ 299 := ⟨(z_b1 (z_b2 zB_1_56)), by decide, by decide⟩
theorem zcl_86 : z_cls[8]? = some ((z_mY 86).cls, TX8, 11) := rfl
theorem zc_30 : ∀ m, z_ce m 30 3 := fun _ => z_hcE zK_1_24.2.2.2.2.2.1 (z_b1 (z_b2 (z_b2 zB_1_56)))
theorem zy_30 : plainName (z_mY 30).cls = true ∧ (30 : Nat) ≠ 128 ∧ (30 : Nat) ≠ 299 := ⟨(z_b1 (z_b2 (z_b2 (z_b2 zB_1_56)))), by decide, by decide⟩
theorem zcl_30 : z_cls[3]? = some ((z_mY 30).cls, TX3, 2) := rfl
theorem zc_161 : ∀ m, z_ce m 161 1 := fun _ => z_hcE zK_1_24.2.2.2.2.2.2.1 (z_b1 (z_b2 (z_b2 (z_b2 (z_b2 zB_1_56)))))
theorem zy_161 : plainName (z_mY 161).cls = true ∧ (161 : Nat) ≠ 128 ∧ (161 : Nat) ≠ 299 := ⟨(z_b1 (z_b2 (z_b2 (z_b2 (z_b2 (z_b2 zB_1_56)))))), by decide, by decide⟩
theorem zcl_161 : z_cls[11]? = some ((z_mY 161).cls, TX11, 19) := rfl
theorem zc_115 : ∀ m, z_ce m 115 2 := fun _ => z_hcE zK_1_24.2.2.2.2.2.2.2.1 (z_b1 (z_b2 (z_b2 (z_b2 (z_b2 (z_b2 (z_b2 zB_1_56)))))))
theorem zy_115 : plainName (z_mY 115).cls = true ∧ (115 : Nat) ≠ 128 ∧ (115 : Nat) ≠ 299 := ⟨(z_b1 (z_b2 (z_b2 (z_b2 (z_b2 (z_b2 (z_b2 (z_b2 zB_1_56)))))))), by decide, by decide⟩
theorem zcl_115 : z_cls[9]? = some ((z_mY 115).cls, TX9, 2) := rfl
def zK_1_32 := zK_1_24.2.2.2.2.2.2.2.2
def zB_1_64 := z_b2 (z_b2 (z_b2 (z_b2 (z_b2 (z_b2 (z_b2 (z_b2 zB_1_56)))))))
theorem zc_160 : ∀ m, z_ce m 160 1 := fun _ => z_hcE zK_1_32.1 (z_b1 zB_1_64)
theorem zy_160 : plainName (z_mY 160).cls = true ∧ (160 : Nat) ≠ 128 ∧ (160 : Nat) ≠ 299 := ⟨(z_b1 (z_b2 zB_1_64)), by decide, by decide⟩
theorem zcl_160 : z_cls[11]? = some ((z_mY 160).cls, TX11, 19) := rfl
theorem zc_5 : ∀ m, z_ce m 5 2 := fun _ => z_hcE zK_1_32.2.1 (z_b1 (z_b2 (z_b2 zB_1_64)))
theorem zy_5 : plainName (z_mY 5).cls = true ∧ (5 : Nat) ≠ 128 ∧ (5 : Nat) ≠ 299 := ⟨(z_b1 (z_b2 (z_b2 (z_b2 zB_1_64)))), by decide, by decide⟩
theorem zcl_5 : z_cls[0]? = some ((z_mY 5).cls, TX0, 7) := rfl
theorem zc_97 : ∀ m, z_ce m 97 0 := fun _ => z_hcE zK_1_32.2.2.1 (z_b1 (z_b2 (z_b2 (z_b2 (z_b2 zB_1_64)))))
theorem zy_97 : plainName (z_mY 97).cls = true ∧ (97 : Nat) ≠ 128 ∧ (97 : Nat) ≠ 299 := ⟨(z_b1 (z_b2 (z_b2 (z_b2 (z_b2 (z_b2 zB_1_64)))))), by decide, by decide⟩
theorem zcl_97 : z_cls[8]? = some ((z_mY 97).cls, TX8, 11) := rfl
theorem zc_106 : ∀ m, z_ce m 106 0 := fun _ => z_hcE zK_1_32.2.2.2.1 (z_b1 (z_b2 (z_b2 (z_b2 (z_b2 (z_b2 (z_b2 zB_1_64)))))))
theorem zy_106 : plainName (z_mY 106).cls = true ∧ (106 : Nat) ≠ 128 ∧ (106 : Nat) ≠ 299 := ⟨(z_b1 (z_b2 (z_b2 (z_b2 (z_b2 (z_b2 (z_b2 (z_b2 zB_1_64)))))))), by decide, by decide⟩
theorem zcl_106 : z_cls[8]? = some ((z_mY 106).cls, TX8, 11) := rfl
def zB_1_72 := z_b2 (z_b2 (z_b2 (z_b2 (z_b2 (z_b2 (z_b2 (z_b2 zB_1_64)))))))
theorem zc_101 : ∀ m, z_ce m 101 0 := fun _ => z_hcE zK_1_32.2.2.2.2.1 (z_b1 zB_1_72)
theorem zy_101 : plainName (z_mY 101).cls = true ∧ (101 : Nat) ≠ 128 ∧ (101 : Nat) ≠ 299 := ⟨(z_b1 (z_b2 zB_1_72)), by decide, by decide⟩
theorem zcl_101 : z_cls[8]? = some ((z_mY 101).cls, TX8, 11) := rfl
theorem zc_107 : ∀ m, z_ce m 107 0 := fun _ => z_hcE zK_1_32.2.2.2.2.2.1 (z_b1 (z_b2 (z_b2 zB_1_72)))
theorem zy_107 : plainName (z_mY 107).cls = true ∧ (107 : Nat) ≠ 128 ∧ (107 : Nat) ≠ 299 := ⟨(z_b1 (z_b2 (z_b2 (z_b2 zB_1_72)))), by decide, by decide⟩
theorem zcl_107 : z_cls[8]? = some ((z_mY 107).cls, TX8, 11) := rfl
theorem zc_47 : ∀ m, z_ce m 47 0 := fun _ => z_hcE zK_1_32.2.2.2.2.2.2.1 (z_b1 (z_b2 (z_b2 (z_b2 (z_b2 zB_1_72)))))
theorem zy_47 : plainName (z_mY 47).cls = true ∧ (47 : Nat) ≠ 128 ∧ (47 : Nat) ≠ 299 := ⟨(z_b1 (z_b2 (z_b2 (z_b2 (z_b2 (z_b2 zB_1_72)))))), by decide, by decide⟩
theorem zcl_47 : z_cls[3]? = some ((z_mY 47).cls, TX3, 2) := rfl
theorem zc_48 : ∀ m, z_ce m 48 0 := fun _ => z_hcE zK_1_32.2.2.2.2.2.2.2.1 (z_b1 (z_b2 (z_b2 (z_b2 (z_b2 (z_b2 (z_b2 zB_1_72)))))))
theorem zy_48 : plainName (z_mY 48).cls = true ∧ (48 : Nat) ≠ 128 ∧ (48 : Nat) ≠ 299 := ⟨(z_b1 (z_b2 (z_b2 (z_b2 (z_b2 (z_b2 (z_b2 (z_b2 zB_1_72)))))))), by decide, by decide⟩
theorem zcl_48 : z_cls[3]? = some ((z_mY 48).cls, TX3, 2) := rfl
def zK_1_40 := zK_1_32.2.2.2.2.2.2.2.2
def zB_1_80 := z_b2 (z_b2 (z_b2 (z_b2 (z_b2 (z_b2 (z_b2 (z_b2 zB_1_72)))))))
theorem zc_61 : ∀ m, z_ce m 61 1 := fun _ => z_hcE zK_1_40.1 (z_b1 zB_1_80)
theorem zy_61 : plainName (z_mY 61).cls = true ∧ (61 : Nat) ≠ 128 ∧ (61 : Nat) ≠ 299 := ⟨(z_b1 (z_b2 zB_1_80)), by decide, by decide⟩
theorem zcl_61 : z_cls[6]? = some ((z_mY 61).cls, TX6, 2) := rfl
theorem zc_174 : ∀ m, z_ce m 174 6 := fun _ => z_hcE zK_1_40.2.1 (z_b1 (z_b2 (z_b2 zB_1_80)))
theorem zy_174 : plainName (z_mY 174).cls = true ∧ (174 : Nat) ≠ 128 ∧ (174 : Nat) ≠ 299 := ⟨(z_b1 (z_b2 (z_b2 (z_b2 zB_1_80)))), by decide, by decide⟩
theorem zc_170 : ∀ m, z_ce m 170 3 := fun _ => z_hcE zK_1_40.2.2.1 (z_b1 (z_b2 (z_b2 (z_b2 (z_b2 zB_1_80)))))
theorem zy_170 : plainName (z_mY 170).cls = true ∧ (170 : Nat) ≠ 128 ∧ (170 : Nat) ≠ 299 := ⟨(z_b1 (z_b2 (z_b2 (z_b2 (z_b2 (z_b2 zB_1_80)))))), by decide, by decide⟩
theorem zc_177 : ∀ m, z_ce m 177 0 := fun _ => z_hcE zK_1_40.2.2.2.1 (z_b1 (z_b2 (z_b2 (z_b2 (z_b2 (z_b2 (z_b2 zB_1_80)))))))
theorem zy_177 : plainName (z_mY 177).cls = true ∧ (177 : Nat) ≠ 128 ∧ (177 : Nat) ≠ 299 := ⟨(z_b1 (z_b2 (z_b2 (z_b2 (z_b2 (z_b2 (z_b2 (z_b2 zB_1_80)))))))), by decide, by decide⟩
theorem zcl_177 : z_cls[12]? = some ((z_mY 177).cls, TX12, 39) := rfl
def zB_1_88 := z_b2 (z_b2 (z_b2 (z_b2 (z_b2 (z_b2 (z_b2 (z_b2 zB_1_80)))))))
theorem zc_180 : ∀ m, z_ce m 180 1 := fun _ => z_hcE zK_1_40.2.2.2.2.1 (z_b1 zB_1_88)
theorem zy_180 : plainName (z_mY 180).cls = true ∧ (180 : Nat) ≠ 128 ∧ (180 : Nat) ≠ 299 := ⟨(z_b1 (z_b2 zB_1_88)), by decide, by decide⟩
theorem zc_179 : ∀ m, z_ce m 179 0 := fun _ => z_hcE zK_1_40.2.2.2.2.2.1 (z_b1 (z_b2 (z_b2 zB_1_88)))
theorem zy_179 : plainName (z_mY 179).cls = true ∧ (179 : Nat) ≠ 128 ∧ (179 : Nat) ≠ 299 := ⟨(z_b1 (z_b2 (z_b2 (z_b2 zB_1_88)))), by decide, by decide⟩
theorem zcl_179 : z_cls[12]? = some ((z_mY 179).cls, TX12, 39) := rfl
theorem zc_178 : ∀ m, z_ce m 178 0 := fun _ => z_hcE zK_1_40.2.2.2.2.2.2.1 (z_b1 (z_b2 (z_b2 (z_b2 (z_b2 zB_1_88)))))
theorem zy_178 : plainName (z_mY 178).cls = true ∧ (178 : Nat) ≠ 128 ∧ (178 : Nat) ≠ 299 := ⟨(z_b1 (z_b2 (z_b2 (z_b2 (z_b2 (z_b2 zB_1_88)))))), by decide, by decide⟩
theorem zcl_178 : z_cls[12]? = some ((z_mY 178).cls, TX12, 39) := rfl
theorem zc_182 : ∀ m, z_ce m 182 2 := fun _ => z_hcE zK_1_40.2.2.2.2.2.2.2.1 (z_b1 (z_b2 (z_b2 (z_b2 (z_b2 (z_b2 (z_b2 zB_1_88)))))))
theorem zy_182 : plainName (z_mY 182).cls = true ∧ (182 : Nat) ≠ 128 ∧ (182 : Nat) ≠ 299 := ⟨(z_b1 (z_b2 (z_b2 (z_b2 (z_b2 (z_b2 (z_b2 (z_b2 zB_1_88)))))))), by decide, by decide⟩
theorem zcl_182 : z_cls[12]? = some ((z_mY 182).cls, TX12, 39) := rfl
def zK_1_48 := zK_1_40.2.2.2.2.2.2.2.2
def zB_1_96 := z_b2 (z_b2 (z_b2 (z_b2 (z_b2 (z_b2 (z_b2 (z_b2 zB_1_88)))))))
theorem zc_185 : ∀ m, z_ce m 185 0 := fun _ => z_hcE zK_1_48.1 (z_b1 zB_1_96)
theorem zy_185 : plainName (z_mY 185).cls = true ∧ (185 : Nat) ≠ 128 ∧ (185 : Nat) ≠ 299 := ⟨(z_b1 (z_b2 zB_1_96)), by decide, by decide⟩
theorem zcl_185 : z_cls[12]? = some ((z_mY 185).cls, TX12, 39) := rfl
theorem zc_183 : ∀ m, z_ce m 183 2 := fun _ => z_hcE zK_1_48.2.1 (z_b1 (z_b2 (z_b2 zB_1_96)))
theorem zy_183 : plainName (z_mY 183).cls = true ∧ (183 : Nat) ≠ 128 ∧ (183 : Nat) ≠ 299 := ⟨(z_b1 (z_b2 (z_b2 (z_b2 zB_1_96)))), by decide, by decide⟩
theorem zcl_183 : z_cls[12]? = some ((z_mY 183).cls, TX12, 39) := rfl
theorem zc_181 : ∀ m, z_ce m 181 1 := fun _ => z_hcE zK_1_48.2.2.1 (z_b1 (z_b2 (z_b2 (z_b2 (z_b2 zB_1_96)))))
theorem zy_181 : plainName (z_mY 181).cls = true ∧ (181 : Nat) ≠ 128 ∧ (181 : Nat) ≠ 299 := ⟨(z_b1 (z_b2 (z_b2 (z_b2 (z_b2 (z_b2 zB_1_96)))))), by decide, by decide⟩
theorem zc_186 : ∀ m, z_ce m 186 2 := fun _ => z_hcE zK_1_48.2.2.2.1 (z_b1 (z_b2 (z_b2 (z_b2 (z_b2 (z_b2 (z_b2 zB_1_96)))))))
theorem zy_186 : plainName (z_mY 186).cls = true ∧ (186 : Nat) ≠ 128 ∧ (186 : Nat) ≠ 299 := ⟨(z_b1 (z_b2 (z_b2 (z_b2 (z_b2 (z_b2 (z_b2 (z_b2 zB_1_96)))))))), by decide, by decide⟩
theorem zcl_186 : z_cls[12]? = some ((z_mY 186).cls, TX12, 39) := rfl
def zB_1_104 := z_b2 (z_b2 (z_b2 (z_b2 (z_b2 (z_b2 (z_b2 (z_b2 zB_1_96)))))))
theorem zc_187 : ∀ m, z_ce m 187 0 := fun _ => z_hcE zK_1_48.2.2.2.2.1 (z_b1 zB_1_104)
theorem zy_187 : plainName (z_mY 187).cls = true ∧ (187 : Nat) ≠ 128 ∧ (187 : Nat) ≠ 299 := ⟨(z_b1 (z_b2 zB_1_104)), by decide, by decide⟩
theorem zcl_187 : z_cls[12]? = some ((z_mY 187).cls, TX12, 39) := rfl
theorem zc_188 : ∀ m, z_ce m 188 0 := fun _ => z_hcE zK_1_48.2.2.2.2.2.1 (z_b1 (z_b2 (z_b2 zB_1_104)))
theorem zy_188 : plainName (z_mY 188).cls = true ∧ (188 : Nat) ≠ 128 ∧ (188 : Nat) ≠ 299 := ⟨(z_b1 (z_b2 (z_b2 (z_b2 zB_1_104)))), by decide, by decide⟩
theorem zcl_188 : z_cls[12]? = some ((z_mY 188).cls, TX12, 39) := rfl
theorem zc_184 : ∀ m, z_ce m 184 1 := fun _ => z_hcE zK_1_48.2.2.2.2.2.2.1 (z_b1 (z_b2 (z_b2 (z_b2 (z_b2 zB_1_104)))))
theorem zy_184 : plainName (z_mY 184).cls = true ∧ (184 : Nat) ≠ 128 ∧ (184 : Nat) ≠ 299 := ⟨(z_b1 (z_b2 (z_b2 (z_b2 (z_b2 (z_b2 zB_1_104)))))), by decide, by decide⟩
theorem zcl_184 : z_cls[12]? = some ((z_mY 184).cls, TX12, 39) := rfl
theorem zc_190 : ∀ m, z_ce m 190 1 := fun _ => z_hcE zK_1_48.2.2.2.2.2.2.2.1 (z_b1 (z_b2 (z_b2 (z_b2 (z_b2 (z_b2 (z_b2 zB_1_104)))))))
theorem zy_190 : plainName (z_mY 190).cls = true ∧ (190 : Nat) ≠ 128 ∧ (190 : Nat) ≠ 299 := ⟨(z_b1 (z_b2 (z_b2 (z_b2 (z_b2 (z_b2 (z_b2 (z_b2 zB_1_104)))))))), by decide, by decide⟩
theorem zcl_190 : z_cls[12]? = some ((z_mY 190).cls, TX12, 39) := rfl
def zK_1_56 := zK_1_48.2.2.2.2.2.2.2.2
def zB_1_112 := z_b2 (z_b2 (z_b2 (z_b2 (z_b2 (z_b2 (z_b2 (z_b2 zB_1_104)))))))
theorem zc_189 : ∀ m, z_ce m 189 0 := fun _ => z_hcE zK_1_56.1 (z_b1 zB_1_112)
theorem zy_189 : plainName (z_mY 189).cls = true ∧ (189 : Nat) ≠ 128 ∧ (189 : Nat) ≠ 299 := ⟨(z_b1 (z_b2 zB_1_112)), by decide, by decide⟩
theorem zcl_189 : z_cls[12]? = some ((z_mY 189).cls, TX12, 39) := rfl
theorem zc_191 : ∀ m, z_ce m 191 1 := fun _ => z_hcE zK_1_56.2.1 (z_b1 (z_b2 (z_b2 zB_1_112)))
theorem zy_191 : plainName (z_mY 191).cls = true ∧ (191 : Nat) ≠ 128 ∧ (191 : Nat) ≠ 299 := ⟨(z_b1 (z_b2 (z_b2 (z_b2 zB_1_112)))), by decide, by decide⟩
theorem zcl_191 : z_cls[12]? = some ((z_mY 191).cls, TX12, 39) := rfl
theorem zc_198 : ∀ m, z_ce m 198 1 := fun _ => z_hcE zK_1_56.2.2.1 (z_b1 (z_b2 (z_b2 (z_b2 (z_b2 zB_1_112)))))
theorem zy_198 : plainName (z_mY 198).cls = true ∧ (198 : Nat) ≠ 128 ∧ (198 : Nat) ≠ 299 := ⟨(z_b1 (z_b2 (z_b2 (z_b2 (z_b2 (z_b2 zB_1_112)))))), by decide, by decide⟩
theorem zw_1458 : Cond.methodLink (z_mY 200).cls 171 Lib.Math.min.name ∈ z_TB := z_inH (z_b1 (z_b2 (z_b2 (z_b2 (z_b2 (z_b2 (z_b2 zB_1_112)))))))
theorem zw_1459 : Cond.methodLink (z_mY 200).cls 176 Lib.Math.max.name ∈ z_TB := z_inH (z_b1 (z_b2 (z_b2 (z_b2 (z_b2 (z_b2 (z_b2 (z_b2 zB_1_112))))))))
def zB_1_120 := z_b2 (z_b2 (z_b2 (z_b2 (z_b2 (z_b2 (z_b2 (z_b2 zB_1_112)))))))
theorem zc_196 : ∀ m, z_ce m 196 2 := fun _ => z_hcE zK_1_56.2.2.2.1 (z_b1 zB_1_120)
theorem zy_196 : plainName (z_mY 196).cls = true ∧ (196 : Nat) ≠ 128 ∧ (196 : Nat) ≠ 299 := ⟨(z_b1 (z_b2 zB_1_120)), by decide, by decide⟩
theorem zcl_196 : z_cls[12]? = some ((z_mY 196).cls, TX12, 39) := rfl
theorem zc_199 : ∀ m, z_ce m 199 6 := fun _ => z_hcE zK_1_56.2.2.2.2.1 (z_b1 (z_b2 (z_b2 zB_1_120)))
theorem zy_199 : plainName (z_mY 199).cls = true ∧ (199 : Nat) ≠ 128 ∧ (199 : Nat) ≠ 299 := ⟨(z_b1 (z_b2 (z_b2 (z_b2 zB_1_120)))), by decide, by decide⟩
theorem zc_200 : ∀ m, z_ce m 200 4 := fun _ => z_hcE zK_1_56.2.2.2.2.2.1 (z_b1 (z_b2 (z_b2 (z_b2 (z_b2 zB_1_120)))))
theorem zy_200 : plainName (z_mY 200).cls = true ∧ (200 : Nat) ≠ 128 ∧ (200 : Nat) ≠ 299 := ⟨(z_b1 (z_b2 (z_b2 (z_b2 (z_b2 (z_b2 zB_1_120)))))), by decide, by decide⟩
theorem zc_195 : ∀ m, z_ce m 195 1 := fun _ => z_hcE zK_1_56.2.2.2.2.2.2.1 (z_b1 (z_b2 (z_b2 (z_b2 (z_b2 (z_b2 (z_b2 zB_1_120)))))))
theorem zy_195 : plainName (z_mY 195).cls = true ∧ (195 : Nat) ≠ 128 ∧ (195 : Nat) ≠ 299 := ⟨(z_b1 (z_b2 (z_b2 (z_b2 (z_b2 (z_b2 (z_b2 (z_b2 zB_1_120)))))))), by decide, by decide⟩
theorem zcl_195 : z_cls[12]? = some ((z_mY 195).cls, TX12, 39) := rfl
def zB_1_128 := z_b2 (z_b2 (z_b2 (z_b2 (z_b2 (z_b2 (z_b2 (z_b2 zB_1_120)))))))
theorem zc_201 : ∀ m, z_ce m 201 5 := fun _ => z_hcE zK_1_56.2.2.2.2.2.2.2.1 (z_b1 zB_1_128)
theorem zy_201 : plainName (z_mY 201).cls = true ∧ (201 : Nat) ≠ 128 ∧ (201 : Nat) ≠ 299 := ⟨(z_b1 (z_b2 zB_1_128)), by decide, by decide⟩
theorem zcl_201 : z_cls[12]? = some ((z_mY 201).cls, TX12, 39) := rfl
def zK_1_64 := zK_1_56.2.2.2.2.2.2.2.2
theorem zc_204 : ∀ m, z_ce m 204 3 := fun _ => z_hcE zK_1_64.1 (z_b1 (z_b2 (z_b2 zB_1_128)))
theorem zy_204 : plainName (z_mY 204).cls = true ∧ (204 : Nat) ≠ 128 ∧ (204 : Nat) ≠ 299 := ⟨(z_b1 (z_b2 (z_b2 (z_b2 zB_1_128)))), by decide, by decide⟩
theorem zcl_204 : z_cls[12]? = some ((z_mY 204).cls, TX12, 39) := rfl
theorem zc_203 : ∀ m, z_ce m 203 1 := fun _ => z_hcE zK_1_64.2.1 (z_b1 (z_b2 (z_b2 (z_b2 (z_b2 zB_1_128)))))
theorem zy_203 : plainName (z_mY 203).cls = true ∧ (203 : Nat) ≠ 128 ∧ (203 : Nat) ≠ 299 := ⟨(z_b1 (z_b2 (z_b2 (z_b2 (z_b2 (z_b2 zB_1_128)))))), by decide, by decide⟩
theorem zcl_203 : z_cls[12]? = some ((z_mY 203).cls, TX12, 39) := rfl
theorem zc_205 : ∀ m, z_ce m 205 2 := fun _ => z_hcE zK_1_64.2.2.1 (z_b1 (z_b2 (z_b2 (z_b2 (z_b2 (z_b2 (z_b2 zB_1_128)))))))
theorem zy_205 : plainName (z_mY 205).cls = true ∧ (205 : Nat) ≠ 128 ∧ (205 : Nat) ≠ 299 := ⟨(z_b1 (z_b2 (z_b2 (z_b2 (z_b2 (z_b2 (z_b2 (z_b2 zB_1_128)))))))), by decide, by decide⟩
theorem zcl_205 : z_cls[12]? = some ((z_mY 205).cls, TX12, 39) := rfl
def zB_1_136 := z_b2 (z_b2 (z_b2 (z_b2 (z_b2 (z_b2 (z_b2 (z_b2 zB_1_128)))))))
theorem zc_194 : ∀ m, z_ce m 194 2 := fun _ => z_hcE zK_1_64.2.2.2.1 (z_b1 zB_1_136)
theorem zy_194 : plainName (z_mY 194).cls = true ∧ (194 : Nat) ≠ 128 ∧ (194 : Nat) ≠ 299 := ⟨(z_b1 (z_b2 zB_1_136)), by decide, by decide⟩
theorem zcl_194 : z_cls[12]? = some ((z_mY 194).cls, TX12, 39) := rfl
theorem zc_206 : ∀ m, z_ce m 206 0 := fun _ => z_hcE zK_1_64.2.2.2.2.1 (z_b1 (z_b2 (z_b2 zB_1_136)))
theorem zy_206 : plainName (z_mY 206).cls = true ∧ (206 : Nat) ≠ 128 ∧ (206 : Nat) ≠ 299 := ⟨(z_b1 (z_b2 (z_b2 (z_b2 zB_1_136)))), by decide, by decide⟩
theorem zcl_206 : z_cls[12]? = some ((z_mY 206).cls, TX12, 39) := rfl
theorem zc_208 : ∀ m, z_ce m 208 1 := fun _ => z_hcE zK_1_64.2.2.2.2.2.1 (z_b1 (z_b2 (z_b2 (z_b2 (z_b2 zB_1_136)))))
theorem zy_208 : plainName (z_mY 208).cls = true ∧ (208 : Nat) ≠ 128 ∧ (208 : Nat) ≠ 299 := ⟨(z_b1 (z_b2 (z_b2 (z_b2 (z_b2 (z_b2 zB_1_136)))))), by decide, by decide⟩
theorem zcl_208 : z_cls[12]? = some ((z_mY 208).cls, TX12, 39) := rfl
theorem zc_209 : ∀ m, z_ce m 209 3 := fun _ => z_hcE zK_1_64.2.2.2.2.2.2.1 (z_b1 (z_b2 (z_b2 (z_b2 (z_b2 (z_b2 (z_b2 zB_1_136)))))))
theorem zy_209 : plainName (z_mY 209).cls = true ∧ (209 : Nat) ≠ 128 ∧ (209 : Nat) ≠ 299 := ⟨(z_b1 (z_b2 (z_b2 (z_b2 (z_b2 (z_b2 (z_b2 (z_b2 zB_1_136)))))))), by decide, by decide⟩
theorem zcl_209 : z_cls[12]? = some ((z_mY 209).cls, TX12, 39) := rfl
def zB_1_144 := z_b2 (z_b2 (z_b2 (z_b2 (z_b2 (z_b2 (z_b2 (z_b2 zB_1_136)))))))
theorem zc_210 : ∀ m, z_ce m 210 2 := fun _ => z_hcE zK_1_64.2.2.2.2.2.2.2.1 (z_b1 zB_1_144)
theorem zy_210 : plainName (z_mY 210).cls = true ∧ (210 : Nat) ≠ 128 ∧ (210 : Nat) ≠ 299 := ⟨(z_b1 (z_b2 zB_1_144)), by decide, by decide⟩
theorem zcl_210 : z_cls[12]? = some ((z_mY 210).cls, TX12, 39) := rfl
def zK_1_72 := zK_1_64.2.2.2.2.2.2.2.2
theorem zc_211 : ∀ m, z_ce m 211 2 := fun _ => z_hcE zK_1_72.1 (z_b1 (z_b2 (z_b2 zB_1_144)))
theorem zy_211 : plainName (z_mY 211).cls = true ∧ (211 : Nat) ≠ 128 ∧ (211 : Nat) ≠ 299 := ⟨(z_b1 (z_b2 (z_b2 (z_b2 zB_1_144)))), by decide, by decide⟩
theorem zcl_211 : z_cls[12]? = some ((z_mY 211).cls, TX12, 39) := rfl
theorem zc_197 : ∀ m, z_ce m 197 1 := fun _ => z_hcE zK_1_72.2.1 (z_b1 (z_b2 (z_b2 (z_b2 (z_b2 zB_1_144)))))
theorem zy_197 : plainName (z_mY 197).cls = true ∧ (197 : Nat) ≠ 128 ∧ (197 : Nat) ≠ 299 := ⟨(z_b1 (z_b2 (z_b2 (z_b2 (z_b2 (z_b2 zB_1_144)))))), by decide, by decide⟩
theorem zcl_197 : z_cls[12]? = some ((z_mY 197).cls, TX12, 39) := rfl
theorem zc_212 : ∀ m, z_ce m 212 2 := fun _ => z_hcE zK_1_72.2.2.1 (z_b1 (z_b2 (z_b2 (z_b2 (z_b2 (z_b2 (z_b2 zB_1_144)))))))
theorem zy_212 : plainName (z_mY 212).cls = true ∧ (212 : Nat) ≠ 128 ∧ (212 : Nat) ≠ 299 := ⟨(z_b1 (z_b2 (z_b2 (z_b2 (z_b2 (z_b2 (z_b2 (z_b2 zB_1_144)))))))), by decide, by decide⟩
theorem zcl_212 : z_cls[12]? = some ((z_mY 212).cls, TX12, 39) := rfl
def zB_1_152 := z_b2 (z_b2 (z_b2 (z_b2 (z_b2 (z_b2 (z_b2 (z_b2 zB_1_144)))))))
theorem zc_214 : ∀ m, z_ce m 214 2 := fun _ => z_hcE zK_1_72.2.2.2.1 (z_b1 zB_1_152)
theorem zy_214 : plainName (z_mY 214).cls = true ∧ (214 : Nat) ≠ 128 ∧ (214 : Nat) ≠ 299 := ⟨(z_b1 (z_b2 zB_1_152)), by decide, by decide⟩
theorem zcl_214 : z_cls[12]? = some ((z_mY 214).cls, TX12, 39) := rfl
theorem zc_171 : ∀ m, z_ce m 171 2 := fun _ => z_hcE zK_1_72.2.2.2.2.1 (z_b1 (z_b2 (z_b2 zB_1_152)))
theorem zy_171 : plainName (z_mY 171).cls = true ∧ (171 : Nat) ≠ 128 ∧ (171 : Nat) ≠ 299 := ⟨(z_b1 (z_b2 (z_b2 (z_b2 zB_1_152)))), by decide, by decide⟩
theorem zc_216 : ∀ m, z_ce m 216 2 := fun _ => z_hcE zK_1_72.2.2.2.2.2.1 (z_b1 (z_b2 (z_b2 (z_b2 (z_b2 zB_1_152)))))
theorem zy_216 : plainName (z_mY 216).cls = true ∧ (216 : Nat) ≠ 128 ∧ (216 : Nat) ≠ 299 := ⟨(z_b1 (z_b2 (z_b2 (z_b2 (z_b2 (z_b2 zB_1_152)))))), by decide, by decide⟩
theorem zcl_216 : z_cls[12]? = some ((z_mY 216).cls, TX12, 39) := rfl
theorem zc_215 : ∀ m, z_ce m 215 1 := fun _ => z_hcE zK_1_72.2.2.2.2.2.2.1 (z_b1 (z_b2 (z_b2 (z_b2 (z_b2 (z_b2 (z_b2 zB_1_152)))))))
theorem zy_215 : plainName (z_mY 215).cls = true ∧ (215 : Nat) ≠ 128 ∧ (215 : Nat) ≠ 299 := ⟨(z_b1 (z_b2 (z_b2 (z_b2 (z_b2 (z_b2 (z_b2 (z_b2 zB_1_152)))))))), by decide, by decide⟩
theorem zcl_215 : z_cls[12]? = some ((z_mY 215).cls, TX12, 39) := rfl
def zB_1_160 := z_b2 (z_b2 (z_b2 (z_b2 (z_b2 (z_b2 (z_b2 (z_b2 zB_1_152)))))))
theorem zc_218 : ∀ m, z_ce m 218 3 := fun _ => z_hcE zK_1_72.2.2.2.2.2.2.2.1 (z_b1 zB_1_160)
theorem zy_218 : plainName (z_mY 218).cls = true ∧ (218 : Nat) ≠ 128 ∧ (218 : Nat) ≠ 299 := ⟨(z_b1 (z_b2 zB_1_160)), by decide, by decide⟩
theorem zcl_218 : z_cls[12]? = some ((z_mY 218).cls, TX12, 39) := rfl
def zK_1_80 := zK_1_72.2.2.2.2.2.2.2.2
theorem zc_222 : ∀ m, z_ce m 222 0 := fun _ => z_hcE zK_1_80.1 (z_b1 (z_b2 (z_b2 zB_1_160)))
theorem zy_222 : plainName (z_mY 222).cls = true ∧ (222 : Nat) ≠ 128 ∧ (222 : Nat) ≠ 299 := ⟨(z_b1 (z_b2 (z_b2 (z_b2 zB_1_160)))), by decide, by decide⟩
theorem zcl_222 : z_cls[12]? = some ((z_mY 222).cls, TX12, 39) := rfl
theorem zc_221 : ∀ m, z_ce m 221 1 := fun _ => z_hcE zK_1_80.2.1 (z_b1 (z_b2 (z_b2 (z_b2 (z_b2 zB_1_160)))))
theorem zy_221 : plainName (z_mY 221).cls = true ∧ (221 : Nat) ≠ 128 ∧ (221 : Nat) ≠ 299 := ⟨(z_b1 (z_b2 (z_b2 (z_b2 (z_b2 (z_b2 zB_1_160)))))), by decide, by decide⟩
theorem zcl_221 : z_cls[12]? = some ((z_mY 221).cls, TX12, 39) := rfl
theorem zc_228 : ∀ m, z_ce m 228 5 := fun _ => z_hcE zK_1_80.2.2.1 (z_b1 (z_b2 (z_b2 (z_b2 (z_b2 (z_b2 (z_b2 zB_1_160)))))))
theorem zy_228 : plainName (z_mY 228).cls = true ∧ (228 : Nat) ≠ 128 ∧ (228 : Nat) ≠ 299 := ⟨(z_b1 (z_b2 (z_b2 (z_b2 (z_b2 (z_b2 (z_b2 (z_b2 zB_1_160)))))))), by decide, by decide⟩
theorem zcl_228 : z_cls[12]? = some ((z_mY 228).cls, TX12, 39) := rfl
def zB_1_168 := z_b2 (z_b2 (z_b2 (z_b2 (z_b2 (z_b2 (z_b2 (z_b2 zB_1_160)))))))
theorem zc_224 : ∀ m, z_ce m 224 5 := fun _ => z_hcE zK_1_80.2.2.2.1 (z_b1 zB_1_168)
theorem zy_224 : plainName (z_mY 224).cls = true ∧ (224 : Nat) ≠ 128 ∧ (224 : Nat) ≠ 299 := ⟨(z_b1 (z_b2 zB_1_168)), by decide, by decide⟩
theorem zcl_224 : z_cls[12]? = some ((z_mY 224).cls, TX12, 39) := rfl
theorem zc_223 : ∀ m, z_ce m 223 0 := fun _ => z_hcE zK_1_80.2.2.2.2.1 (z_b1 (z_b2 (z_b2 zB_1_168)))
theorem zy_223 : plainName (z_mY 223).cls = true ∧ (223 : Nat) ≠ 128 ∧ (223 : Nat) ≠ 299 := ⟨(z_b1 (z_b2 (z_b2 (z_b2 zB_1_168)))), by decide, by decide⟩
theorem zcl_223 : z_cls[12]? = some ((z_mY 223).cls, TX12, 39) := rfl
theorem zc_225 : ∀ m, z_ce m 225 0 := fun _ => z_hcE zK_1_80.2.2.2.2.2.1 (z_b1 (z_b2 (z_b2 (z_b2 (z_b2 zB_1_168)))))
theorem zy_225 : plainName (z_mY 225).cls = true ∧ (225 : Nat) ≠ 128 ∧ (225 : Nat) ≠ 299 := ⟨(z_b1 (z_b2 (z_b2 (z_b2 (z_b2 (z_b2 zB_1_168)))))), by decide, by decide⟩
theorem zcl_225 : z_cls[12]? = some ((z_mY 225).cls, TX12, 39) := rfl
theorem zc_227 : ∀ m, z_ce m 227 2 := fun _ => z_hcE zK_1_80.2.2.2.2.2.2.1 (z_b1 (z_b2 (z_b2 (z_b2 (z_b2 (z_b2 (z_b2 zB_1_168)))))))
theorem zy_227 : plainName (z_mY 227).cls = true ∧ (227 : Nat) ≠ 128 ∧ (227 : Nat) ≠ 299 := ⟨(z_b1 (z_b2 (z_b2 (z_b2 (z_b2 (z_b2 (z_b2 (z_b2 zB_1_168)))))))), by decide, by decide⟩
def zB_1_176 := z_b2 (z_b2 (z_b2 (z_b2 (z_b2 (z_b2 (z_b2 (z_b2 zB_1_168)))))))
theorem zc_202 : ∀ m, z_ce m 202 4 := fun _ => z_hcE zK_1_80.2.2.2.2.2.2.2.1 (z_b1 zB_1_176)
theorem zy_202 : plainName (z_mY 202).cls = true ∧ (202 : Nat) ≠ 128 ∧ (202 : Nat) ≠ 299 := ⟨(z_b1 (z_b2 zB_1_176)), by decide, by decide⟩
theorem zcl_202 : z_cls[12]? = some ((z_mY 202).cls, TX12, 39) := rfl
def zK_1_88 := zK_1_80.2.2.2.2.2.2.2.2
theorem zc_193 : ∀ m, z_ce m 193 1 := fun _ => z_hcE zK_1_88.1 (z_b1 (z_b2 (z_b2 zB_1_176)))
theorem zy_193 : plainName (z_mY 193).cls = true ∧ (193 : Nat) ≠ 128 ∧ (193 : Nat) ≠ 299 := ⟨(z_b1 (z_b2 (z_b2 (z_b2 zB_1_176)))), by decide, by decide⟩
theorem zcl_193 : z_cls[12]? = some ((z_mY 193).cls, TX12, 39) := rfl
theorem zc_229 : ∀ m, z_ce m 229 2 := fun _ => z_hcE zK_1_88.2.1 (z_b1 (z_b2 (z_b2 (z_b2 (z_b2 zB_1_176)))))
theorem zy_229 : plainName (z_mY 229).cls = true ∧ (229 : Nat) ≠ 128 ∧ (229 : Nat) ≠ 299 := ⟨(z_b1 (z_b2 (z_b2 (z_b2 (z_b2 (z_b2 zB_1_176)))))), by decide, by decide⟩
theorem zcl_229 : z_cls[12]? = some ((z_mY 229).cls, TX12, 39) := rfl
theorem zc_231 : ∀ m, z_ce m 231 2 := fun _ => z_hcE zK_1_88.2.2.1 (z_b1 (z_b2 (z_b2 (z_b2 (z_b2 (z_b2 (z_b2 zB_1_176)))))))
theorem zy_231 : plainName (z_mY 231).cls = true ∧ (231 : Nat) ≠ 128 ∧ (231 : Nat) ≠ 299 := ⟨(z_b1 (z_b2 (z_b2 (z_b2 (z_b2 (z_b2 (z_b2 (z_b2 zB_1_176)))))))), by decide, by decide⟩
theorem zcl_231 : z_cls[12]? = some ((z_mY 231).cls, TX12, 39) := rfl
def zB_1_184 := z_b2 (z_b2 (z_b2 (z_b2 (z_b2 (z_b2 (z_b2 (z_b2 zB_1_176)))))))
theorem zc_207 : ∀ m, z_ce m 207 0 := fun _ => z_hcE zK_1_88.2.2.2.1 (z_b1 zB_1_184)
theorem zy_207 : plainName (z_mY 207).cls = true ∧ (207 : Nat) ≠ 128 ∧ (207 : Nat) ≠ 299 := ⟨(z_b1 (z_b2 zB_1_184)), by decide, by decide⟩
theorem zcl_207 : z_cls[12]? = some ((z_mY 207).cls, TX12, 39) := rfl
theorem zc_234 : ∀ m, z_ce m 234 0 := fun _ => z_hcE zK_1_88.2.2.2.2.1 (z_b1 (z_b2 (z_b2 zB_1_184)))
theorem zy_234 : plainName (z_mY 234).cls = true ∧ (234 : Nat) ≠ 128 ∧ (234 : Nat) ≠ 299 := ⟨(z_b1 (z_b2 (z_b2 (z_b2 zB_1_184)))), by decide, by decide⟩
theorem zcl_234 : z_cls[12]? = some ((z_mY 234).cls, TX12, 39) := rfl
theorem zc_233 : ∀ m, z_ce m 233 0 := fun _ => z_hcE zK_1_88.2.2.2.2.2.1 (z_b1 (z_b2 (z_b2 (z_b2 (z_b2 zB_1_184)))))
theorem zy_233 : plainName (z_mY 233).cls = true ∧ (233 : Nat) ≠ 128 ∧ (233 : Nat) ≠ 299 := ⟨(z_b1 (z_b2 (z_b2 (z_b2 (z_b2 (z_b2 zB_1_184)))))), by decide, by decide⟩
theorem zcl_233 : z_cls[12]? = some ((z_mY 233).cls, TX12, 39) := rfl
theorem zc_232 : ∀ m, z_ce m 232 6 := fun _ => z_hcE zK_1_88.2.2.2.2.2.2.1 (z_b1 (z_b2 (z_b2 (z_b2 (z_b2 (z_b2 (z_b2 zB_1_184)))))))
theorem zy_232 : plainName (z_mY 232).cls = true ∧ (232 : Nat) ≠ 128 ∧ (232 : Nat) ≠ 299 := ⟨(z_b1 (z_b2 (z_b2 (z_b2 (z_b2 (z_b2 (z_b2 (z_b2 zB_1_184)))))))), by decide, by decide⟩
theorem zcl_232 : z_cls[12]? = some ((z_mY 232).cls, TX12, 39) := rfl
def zB_1_192 := z_b2 (z_b2 (z_b2 (z_b2 (z_b2 (z_b2 (z_b2 (z_b2 zB_1_184)))))))
theorem zc_235 : ∀ m, z_ce m 235 2 := fun _ => z_hcE zK_1_88.2.2.2.2.2.2.2.1 (z_b1 zB_1_192)
theorem zy_235 : plainName (z_mY 235).cls = true ∧ (235 : Nat) ≠ 128 ∧ (235 : Nat) ≠ 299 := ⟨(z_b1 (z_b2 zB_1_192)), by decide, by decide⟩
theorem zcl_235 : z_cls[12]? = some ((z_mY 235).cls, TX12, 39) := rfl
def zK_1_96 := zK_1_88.2.2.2.2.2.2.2.2
theorem zc_230 : ∀ m, z_ce m 230 6 := fun _ => z_hcE zK_1_96.1 (z_b1 (z_b2 (z_b2 zB_1_192)))
theorem zy_230 : plainName (z_mY 230).cls = true ∧ (230 : Nat) ≠ 128 ∧ (230 : Nat) ≠ 299 := ⟨(z_b1 (z_b2 (z_b2 (z_b2 zB_1_192)))), by decide, by decide⟩
theorem zcl_230 : z_cls[12]? = some ((z_mY 230).cls, TX12, 39) := rfl
theorem zc_236 : ∀ m, z_ce m 236 6 := fun _ => z_hcE zK_1_96.2.1 (z_b1 (z_b2 (z_b2 (z_b2 (z_b2 zB_1_192)))))
theorem zy_236 : plainName (z_mY 236).cls = true ∧ (236 : Nat) ≠ 128 ∧ (236 : Nat) ≠ 299 := ⟨(z_b1 (z_b2 (z_b2 (z_b2 (z_b2 (z_b2 zB_1_192)))))), by decide, by decide⟩
theorem zcl_236 : z_cls[12]? = some ((z_mY 236).cls, TX12, 39) := rfl
theorem zc_237 : ∀ m, z_ce m 237 6 := fun _ => z_hcE zK_1_96.2.2.1 (z_b1 (z_b2 (z_b2 (z_b2 (z_b2 (z_b2 (z_b2 zB_1_192)))))))
theorem zy_237 : plainName (z_mY 237).cls = true ∧ (237 : Nat) ≠ 128 ∧ (237 : Nat) ≠ 299 := ⟨(z_b1 (z_b2 (z_b2 (z_b2 (z_b2 (z_b2 (z_b2 (z_b2 zB_1_192)))))))), by decide, by decide⟩
set_option maxRecDepth 100000 in
theorem zB_2_0 : (decide (z_hc 242 1) && (decide (plainName (z_mY 242).cls = true) && (decide (z_hc 243 6) && (decide (plainName (z_mY 243).cls = true) && (decide (z_hc 244 0) && (decide (plainName (z_mY 244).cls = true) && (decide (z_hc 245 0) && (decide (plainName (z_mY 245).cls = true) && (decide (z_hc 172 1) && (decide (plainName (z_mY 172).cls = true) && (decide (z_hc 251 0) && (decide (plainName (z_mY 251).cls = true) && (decide (z_hc 252 0) && (decide (plainName (z_mY 252).cls = true) && (decide (z_hc 250 1) && (decide (plainName (z_mY 250).cls = true) && (decide (z_hc 213 1) && (decide (plainName (z_mY 213).cls = true) && (decide (z_hc 217 0) && (decide (plainName (z_mY 217).cls = true) && (decide (z_hc 263 1) && (decide (plainName (z_mY 263).cls = true) && (decide (z_hc 219 1) && (decide (plainName (z_mY 219).cls = true) && (decide (z_hc 265 0) && (decide (plainName (z_mY 265).cls = true) && (decide (z_hc 220 0) && (decide (plainName (z_mY 220).cls = true) && (decide (z_hc 268 2) && (decide (plainName (z_mY 268).cls = true) && (decide (z_hc 267 0) && (decide (plainName (z_mY 267).cls = true) && (decide (z_hc 269 0) && (decide (plainName (z_mY 269).cls = true) && (decide (z_hc 272 0) && (decide (plainName (z_mY 272).cls = true) && (decide (z_hc 273 0) && (decide (plainName (z_mY 273).cls = true) && (decide (z_hc 278 1) && (decide (plainName (z_mY 278).cls = true) && (decide (z_hc 280 2) && (decide (plainName (z_mY 280).cls = true) && (decide (z_hc 288 2) && (decide (plainName (z_mY 288).cls = true) && (decide (z_hc 283 0) && (decide (plainName (z_mY 283).cls = true) && (decide (z_hc 284 0) && (decide (plainName (z_mY 284).cls = true) && (decide (z_hc 285 0) && (decide (plainName (z_mY 285).cls = true) && (decide (z_hc 286 0) && (decide (plainName (z_mY 286).cls = true) && (decide (z_hc 287 0) && (decide (plainName (z_mY 287).cls = true) && (decide (z_hc 289 0) && (decide (plainName (z_mY 289).cls = true) && (decide (z_hc 119 0) && (decide (plainName (z_mY 119).cls = true) && (decide (z_hc 173 0) && (decide (plainName (z_mY 173).cls = true) && (decide (z_hc 120 5) && (decide (plainName (z_mY 120).cls = true) && (decide (z_hc 175 5) && (decide (plainName (z_mY 175).cls = true) && (decide (z_hc 121 1) && (decide (plainName (z_mY 121).cls = true) && (decide (z_hc 176 1) && (decide (plainName (z_mY 176).cls = true) && (decide (z_hc 122 1) && (decide (plainName (z_mY 122).cls = true) && (decide (z_hc 192 1) && (decide (plainName (z_mY 192).cls = true) && (decide (z_hc 123 1) && (decide (plainName (z_mY 123).cls = true) && (decide (z_hc 226 1) && (decide (plainName (z_mY 226).cls = true) && (decide (z_hc 126 1) && (decide (plainName (z_mY 126).cls = true) && (decide (z_hc 253 1) && (decide (plainName (z_mY 253).cls = true) && (decide (z_hc 254 2) && (decide (plainName (z_mY 254).cls = true) && (decide (z_hc 129 2) && (decide (plainName (z_mY 129).cls = true) && (decide (z_hc 255 2) && (decide (plainName (z_mY 255).cls = true) && (decide (z_hc 130 2) && (decide (plainName (z_mY 130).cls = true) && (decide (z_hc 256 2) && (decide (plainName (z_mY 256).cls = true) && (decide (z_hc 131 4) && (decide (plainName (z_mY 131).cls = true) && (decide (z_hc 257 4) && (decide (plainName (z_mY 257).cls = true) && (decide (z_hc 132 3) && (decide (plainName (z_mY 132).cls = true) && (decide (z_hc 258 3) && (decide (plainName (z_mY 258).cls = true) && (decide (z_hc 133 5) && (decide (plainName (z_mY 133).cls = true) && (decide (z_hc 259 5) && (decide (plainName (z_mY 259).cls = true) && (decide (z_hc 134 2) && (decide (plainName (z_mY 134).cls = true) && (decide (z_hc 260 2) && (decide (plainName (z_mY 260).cls = true) && (decide (z_hc 135 1) && (decide (plainName (z_mY 135).cls = true) && (decide (z_hc 261 1) && (decide (plainName (z_mY 261).cls = true) && (decide (z_hc 136 1) && (decide (plainName (z_mY 136).cls = true) && (decide (z_hc 262 1) && (decide (plainName (z_mY 262).cls = true) && (decide (z_hc 137 5) && (decide (plainName (z_mY 137).cls = true) && (decide (z_hc 238 5) && (decide (plainName (z_mY 238).cls = true) && (decide (z_hc 138 1) && (decide (plainName (z_mY 138).cls = true) && (decide (z_hc 239 1) && (decide (plainName (z_mY 239).cls = true) && (decide (z_hc 139 2) && (decide (plainName (z_mY 139).cls = true) && (decide (z_hc 240 2) && (decide (plainName (z_mY 240).cls = true) && (decide (z_hc 140 2) && (decide (plainName (z_mY 140).cls = true) && (decide (z_hc 241 2) && (decide (plainName (z_mY 241).cls = true) && (decide (z_hc 143 2) && (decide (plainName (z_mY 143).cls = true) && (decide (z_hc 246 2) && (decide (plainName (z_mY 246).cls = true) && (decide (z_hc 146 1) && (decide (plainName (z_mY 146).cls = true) && (decide (z_hc 247 1) && (decide (plainName (z_mY 247).cls = true) && (decide (z_hc 147 0) && (decide (plainName (z_mY 147).cls = true) && (decide (z_hc 248 0) && (decide (plainName (z_mY 248).cls = true) && (decide (z_hc 148 2) && (decide (plainName (z_mY 148).cls = true) && (decide (z_hc 249 2) && (decide (plainName (z_mY 249).cls = true) && (decide (z_hc 149 0) && (decide (plainName (z_mY 149).cls = true) && (decide (z_hc 264 0) && (decide (plainName (z_mY 264).cls = true) && (decide (z_hc 150 1) && (decide (plainName (z_mY 150).cls = true) && (decide (z_hc 266 1) && (decide (plainName (z_mY 266).cls = true) && (decide (z_hc 151 2) && (decide (plainName (z_mY 151).cls = true) && (decide (z_hc 270 2) && (decide (plainName (z_mY 270).cls = true) && (decide (z_hc 152 1) && (decide (plainName (z_mY 152).cls = true) && (decide (z_hc 271 1) && (decide (plainName (z_mY 271).cls = true) && (decide (z_hc 153 6) && (decide (plainName (z_mY 153).cls = true) && (decide (z_hc 274 6) && (decide (plainName (z_mY 274).cls = true) && (decide (z_hc 154 4) && (decide (plainName (z_mY 154).cls = true) && (decide (z_hc 275 4) && (decide (plainName (z_mY 275).cls = true) && (decide (z_hc 155 2) && (decide (plainName (z_mY 155).cls = true) && (decide (z_hc 276 2) && (decide (plainName (z_mY 276).cls = true) && (decide (z_hc 156 2) && (decide (plainName (z_mY 156).cls = true) && (decide (z_hc 277 2) && (decide (plainName (z_mY 277).cls = true) && (decide (z_hc 157 3) && (decide (plainName (z_mY 157).cls = true) && (decide (z_hc 279 3) && (decide (plainName (z_mY 279).cls = true) && (decide (z_hc 158 2) && (decide (plainName (z_mY 158).cls = true) && (decide (z_hc 281 2) && (decide (plainName (z_mY 281).cls = true) && (decide (z_hc 159 1) && (decide (plainName (z_mY 159).cls = true) && (decide (z_hc 282 1) && (decide (plainName (z_mY 282).cls = true) && (decide (z_hc 162 1) && (decide (plainName (z_mY 162).cls = true) && (decide (z_hc 290 1) && (decide (plainName (z_mY 290).cls = true) && (decide (z_hc 163 0) && (decide (plainName (z_mY 163).cls = true) && (decide (z_hc 291 0) && (decide (plainName (z_mY 291).cls = true) && (decide (z_hc 164 0) && (decide (plainName (z_mY 164).cls = true) && (true))))))))))))))))))))))))))))))))))))))))))))))))))))))))))))))))))))))))))))))))))))))))))))))))))))))))))))))))))))))))))))))))))))))))))))))))))))))))))))))))))))))))))))))))))))))))))))))))))))))))) = true := by decide +kernel
set_option maxRecDepth 100000 in
theorem zK_2_0 : z_hk 1559 242 ∧ z_hk 1569 243 ∧ z_hk 1565 244 ∧ z_hk 1555 245 ∧ z_hk 1592 172 ∧ z_hk 1589 251 ∧ z_hk 1596 252 ∧ z_hk 1620 250 ∧ z_hk 1656 213 ∧ z_hk 1676 217 ∧ z_hk 1691 263 ∧ z_hk 1703 219 ∧ z_hk 1699 265 ∧ z_hk 1711 220 ∧ z_hk 1727 268 ∧ z_hk 1719 267 ∧ z_hk 1723 269 ∧ z_hk 1739 272 ∧ z_hk 1743 273 ∧ z_hk 1763 278 ∧ z_hk 1771 280 ∧ z_hk 1807 288 ∧ z_hk 1783 283 ∧ z_hk 1787 284 ∧ z_hk 1791 285 ∧ z_hk 1795 286 ∧ z_hk 1799 287 ∧ z_hk 1803 289 ∧ z_hk 143 119 ∧ z_hk 1213 173 ∧ z_hk 441 120 ∧ z_hk 1336 175 ∧ z_hk 452 121 ∧ z_hk 1343 176 ∧ z_hk 456 122 ∧ z_hk 1350 192 ∧ z_hk 530 123 ∧ z_hk 1413 226 ∧ z_hk 670 126 ∧ z_hk 1585 253 ∧ z_hk 1600 254 ∧ z_hk 702 129 ∧ z_hk 1608 255 ∧ z_hk 753 130 ∧ z_hk 1612 256 ∧ z_hk 762 131 ∧ z_hk 1616 257 ∧ z_hk 798 132 ∧ z_hk 1644 258 ∧ z_hk 802 133 ∧ z_hk 1648 259 ∧ z_hk 808 134 ∧ z_hk 1652 260 ∧ z_hk 831 135 ∧ z_hk 1660 261 ∧ z_hk 840 136 ∧ z_hk 1672 262 ∧ z_hk 860 137 ∧ z_hk 1475 238 ∧ z_hk 887 138 ∧ z_hk 1539 239 ∧ z_hk 892 139 ∧ z_hk 1543 240 ∧ z_hk 897 140 ∧ z_hk 1547 241 ∧ z_hk 902 143 ∧ z_hk 1551 246 ∧ z_hk 930 146 ∧ z_hk 1573 247 ∧ z_hk 934 147 ∧ z_hk 1577 248 ∧ z_hk 948 148 ∧ z_hk 1581 249 ∧ z_hk 962 149 ∧ z_hk 1687 264 ∧ z_hk 970 150 ∧ z_hk 1695 266 ∧ z_hk 992 151 ∧ z_hk 1715 270 ∧ z_hk 1017 152 ∧ z_hk 1731 271 ∧ z_hk 1029 153 ∧ z_hk 1735 274 ∧ z_hk 1037 154 ∧ z_hk 1747 275 ∧ z_hk 1042 155 ∧ z_hk 1751 276 ∧ z_hk 1050 156 ∧ z_hk 1755 277 ∧ z_hk 1054 157 ∧ z_hk 1759 279 ∧ z_hk 1068 158 ∧ z_hk 1767 281 ∧ z_hk 1081 159 ∧ z_hk 1775 282 ∧ z_hk 1085 162 ∧ z_hk 1779 290 ∧ z_hk 1116 163 ∧ z_hk 1811 291 ∧ z_hk 1125 164 ∧ True := ⟨rfl, rfl, rfl, rfl, rfl, rfl, rfl, rfl, rfl, rfl, rfl, rfl, rfl, rfl, rfl, rfl, rfl, rfl, rfl, rfl, rfl, rfl, rfl, rfl, rfl, rfl, rfl, rfl, rfl, rfl, rfl, rfl, rfl, rfl, rfl, rfl, rfl, rfl, rfl, rfl, rfl, rfl, rfl, rfl, rfl, rfl, rfl, rfl, rfl, rfl, rfl, rfl, rfl, rfl, rfl, rfl, rfl, rfl, rfl, rfl, rfl, rfl, rfl, rfl, rfl, rfl, rfl, rfl, rfl, rfl, rfl, rfl, rfl, rfl, rfl, rfl, rfl, rfl, rfl, rfl, rfl, rfl, rfl, rfl, rfl, rfl, rfl, rfl, rfl, rfl, rfl, rfl, rfl, rfl, rfl, rfl, rfl, rfl, rfl, rfl, trivial⟩
theorem zcl_237 : z_cls[12]? = some ((z_mY 237).cls, TX12, 39) := rfl
theorem zc_242 : ∀ m, z_ce m 242 1 := fun _ => z_hcE zK_2_0.1 (z_b1 zB_2_0)
theorem zy_242 : plainName (z_mY 242).cls = true ∧ (242 : Nat) ≠ 128 ∧ (242 : Nat) ≠ 299 := ⟨(z_b1 (z_b2 zB_2_0)), by decide, by decide⟩
theorem zcl_242 : z_cls[12]? = some ((z_mY 242).cls, TX12, 39) := rfl
theorem zc_243 : ∀ m, z_ce m 243 6 := fun _ => z_hcE zK_2_0.2.1 (z_b1 (z_b2 (z_b2 zB_2_0)))
theorem zy_243 : plainName (z_mY 243).cls = true ∧ (243 : Nat) ≠ 128 ∧ (243 : Nat) ≠ 299 := ⟨(z_b1 (z_b2 (z_b2 (z_b2 zB_2_0)))), by decide, by decide⟩
theorem zcl_243 : z_cls[12]? = some ((z_mY 243).cls, TX12, 39) := rfl
theorem zc_244 : ∀ m, z_ce m 244 0 := fun _ => z_hcE zK_2_0.2.2.1 (z_b1 (z_b2 (z_b2 (z_b2 (z_b2 zB_2_0)))))
theorem zy_244 : plainName (z_mY 244).cls = true ∧ (244 : Nat) ≠ 128 ∧ (244 : Nat) ≠ 299 := ⟨(z_b1 (z_b2 (z_b2 (z_b2 (z_b2 (z_b2 zB_2_0)))))), by decide, by decide⟩
theorem zcl_244 : z_cls[12]? = some ((z_mY 244).cls, TX12, 39) := rfl
theorem zc_245 : ∀ m, z_ce m 245 0 := fun _ => z_hcE zK_2_0.2.2.2.1 (z_b1 (z_b2 (z_b2 (z_b2 (z_b2 (z_b2 (z_b2 zB_2_0)))))))
theorem zy_245 : plainName (z_mY 245).cls = true ∧ (245 : Nat) ≠ 128 ∧ (245 : Nat) ≠ 299 := ⟨(z_b1 (z_b2 (z_b2 (z_b2 (z_b2 (z_b2 (z_b2 (z_b2 zB_2_0)))))))), by decide, by decide⟩
theorem zcl_245 : z_cls[12]? = some ((z_mY 245).cls, TX12, 39) := rfl
def zB_2_8 := z_b2 (z_b2 (z_b2 (z_b2 (z_b2 (z_b2 (z_b2 (z_b2 zB_2_0)))))))
theorem zc_172 : ∀ m, z_ce m 172 1 := fun _ => z_hcE zK_2_0.2.2.2.2.1 (z_b1 zB_2_8)
theorem zy_172 : plainName (z_mY 172).cls = true ∧ (172 : Nat) ≠ 128 ∧ (172 : Nat) ≠ 299 := ⟨(z_b1 (z_b2 zB_2_8)), by decide, by decide⟩
theorem zc_251 : ∀ m, z_ce m 251 0 := fun _ => z_hcE zK_2_0.2.2.2.2.2.1 (z_b1 (z_b2 (z_b2 zB_2_8)))
theorem zy_251 : plainName (z_mY 251).cls = true ∧ (251 : Nat) ≠ 128 ∧ (251 : Nat) ≠ 299 := ⟨(z_b1 (z_b2 (z_b2 (z_b2 zB_2_8)))), by decide, by decide⟩
theorem zcl_251 : z_cls[12]? = some ((z_mY 251).cls, TX12, 39) := rfl
theorem zc_252 : ∀ m, z_ce m 252 0 := fun _ => z_hcE zK_2_0.2.2.2.2.2.2.1 (z_b1 (z_b2 (z_b2 (z_b2 (z_b2 zB_2_8)))))
theorem zy_252 : plainName (z_mY 252).cls = true ∧ (252 : Nat) ≠ 128 ∧ (252 : Nat) ≠ 299 := ⟨(z_b1 (z_b2 (z_b2 (z_b2 (z_b2 (z_b2 zB_2_8)))))), by decide, by decide⟩
theorem zcl_252 : z_cls[12]? = some ((z_mY 252).cls, TX12, 39) := rfl
theorem zc_250 : ∀ m, z_ce m 250 1 := fun _ => z_hcE zK_2_0.2.2.2.2.2.2.2.1 (z_b1 (z_b2 (z_b2 (z_b2 (z_b2 (z_b2 (z_b2 zB_2_8)))))))
theorem zy_250 : plainName (z_mY 250).cls = true ∧ (250 : Nat) ≠ 128 ∧ (250 : Nat) ≠ 299 := ⟨(z_b1 (z_b2 (z_b2 (z_b2 (z_b2 (z_b2 (z_b2 (z_b2 zB_2_8)))))))), by decide, by decide⟩
theorem zcl_250 : z_cls[12]? = some ((z_mY 250).cls, TX12, 39) := rfl
def zK_2_8 := zK_2_0.2.2.2.2.2.2.2.2
def zB_2_16 := z_b2 (z_b2 (z_b2 (z_b2 (z_b2 (z_b2 (z_b2 (z_b2 zB_2_8)))))))
theorem zc_213 : ∀ m, z_ce m 213 1 := fun _ => z_hcE zK_2_8.1 (z_b1 zB_2_16)
theorem zy_213 : plainName (z_mY 213).cls = true ∧ (213 : Nat) ≠ 128 ∧ (213 : Nat) ≠ 299 := ⟨(z_b1 (z_b2 zB_2_16)), by decide, by decide⟩
theorem zcl_213 : z_cls[12]? = some ((z_mY 213).cls, TX12, 39) := rfl
theorem zc_217 : ∀ m, z_ce m 217 0 := fun _ => z_hcE zK_2_8.2.1 (z_b1 (z_b2 (z_b2 zB_2_16)))
theorem zy_217 : plainName (z_mY 217).cls = true ∧ (217 : Nat) ≠ 128 ∧ (217 : Nat) ≠ 299 := ⟨(z_b1 (z_b2 (z_b2 (z_b2 zB_2_16)))), by decide, by decide⟩
theorem zcl_217 : z_cls[12]? = some ((z_mY 217).cls, TX12, 39) := rfl
theorem zc_263 : ∀ m, z_ce m 263 1 := fun _ => z_hcE zK_2_8.2.2.1 (z_b1 (z_b2 (z_b2 (z_b2 (z_b2 zB_2_16)))))
theorem zy_263 : plainName (z_mY 263).cls = true ∧ (263 : Nat) ≠ 128 ∧ (263 : Nat) ≠ 299 := ⟨(z_b1 (z_b2 (z_b2 (z_b2 (z_b2 (z_b2 zB_2_16)))))), by decide, by decide⟩
theorem zcl_263 : z_cls[12]? = some ((z_mY 263).cls, TX12, 39) := rfl
theorem zc_219 : ∀ m, z_ce m 219 1 := fun _ => z_hcE zK_2_8.2.2.2.1 (z_b1 (z_b2 (z_b2 (z_b2 (z_b2 (z_b2 (z_b2 zB_2_16)))))))
theorem zy_219 : plainName (z_mY 219).cls = true ∧ (219 : Nat) ≠ 128 ∧ (219 : Nat) ≠ 299 := ⟨(z_b1 (z_b2 (z_b2 (z_b2 (z_b2 (z_b2 (z_b2 (z_b2 zB_2_16)))))))), by decide, by decide⟩
theorem zcl_219 : z_cls[12]? = some ((z_mY 219).cls, TX12, 39) := rfl
def zB_2_24 := z_b2 (z_b2 (z_b2 (z_b2 (z_b2 (z_b2 (z_b2 (z_b2 zB_2_16)))))))
theorem zc_265 : ∀ m, z_ce m 265 0 := fun _ => z_hcE zK_2_8.2.2.2.2.1 (z_b1 zB_2_24)
theorem zy_265 : plainName (z_mY 265).cls = true ∧ (265 : Nat) ≠ 128 ∧ (265 : Nat) ≠ 299 := ⟨(z_b1 (z_b2 zB_2_24)), by decide, by decide⟩
theorem zcl_265 : z_cls[12]? = some ((z_mY 265).cls, TX12, 39) := rfl
theorem zc_220 : ∀ m, z_ce m 220 0 := fun _ => z_hcE zK_2_8.2.2.2.2.2.1 (z_b1 (z_b2 (z_b2 zB_2_24)))
theorem zy_220 : plainName (z_mY 220).cls = true ∧ (220 : Nat) ≠ 128 ∧ (220 : Nat) ≠ 299 := ⟨(z_b1 (z_b2 (z_b2 (z_b2 zB_2_24)))), by decide, by decide⟩
theorem zcl_220 : z_cls[12]? = some ((z_mY 220).cls, TX12, 39) := rfl
theorem zc_268 : ∀ m, z_ce m 268 2 := fun _ => z_hcE zK_2_8.2.2.2.2.2.2.1 (z_b1 (z_b2 (z_b2 (z_b2 (z_b2 zB_2_24)))))
theorem zy_268 : plainName (z_mY 268).cls = true ∧ (268 : Nat) ≠ 128 ∧ (268 : Nat) ≠ 299 := ⟨(z_b1 (z_b2 (z_b2 (z_b2 (z_b2 (z_b2 zB_2_24)))))), by decide, by decide⟩
theorem zcl_268 : z_cls[12]? = some ((z_mY 268).cls, TX12, 39) := rfl
theorem zc_267 : ∀ m, z_ce m 267 0 := fun _ => z_hcE zK_2_8.2.2.2.2.2.2.2.1 (z_b1 (z_b2 (z_b2 (z_b2 (z_b2 (z_b2 (z_b2 zB_2_24)))))))
theorem zy_267 : plainName (z_mY 267).cls = true ∧ (267 : Nat) ≠ 128 ∧ (267 : Nat) ≠ 299 := ⟨(z_b1 (z_b2 (z_b2 (z_b2 (z_b2 (z_b2 (z_b2 (z_b2 zB_2_24)))))))), by decide, by decide⟩
theorem zcl_267 : z_cls[12]? = some ((z_mY 267).cls, TX12, 39) := rfl
def zK_2_16 := zK_2_8.2.2.2.2.2.2.2.2
def zB_2_32 := z_b2 (z_b2 (z_b2 (z_b2 (z_b2 (z_b2 (z_b2 (z_b2 zB_2_24)))))))
theorem zc_269 : ∀ m, z_ce m 269 0 := fun _ => z_hcE zK_2_16.1 (z_b1 zB_2_32)
theorem zy_269 : plainName (z_mY 269).cls = true ∧ (269 : Nat) ≠ 128 ∧ (269 : Nat) ≠ 299 := ⟨(z_b1 (z_b2 zB_2_32)), by decide, by decide⟩
theorem zcl_269 : z_cls[12]? = some ((z_mY 269).cls, TX12, 39) := rfl
theorem zc_272 : ∀ m, z_ce m 272 0 := fun _ => z_hcE zK_2_16.2.1 (z_b1 (z_b2 (z_b2 zB_2_32)))
theorem zy_272 : plainName (z_mY 272).cls = true ∧ (272 : Nat) ≠ 128 ∧ (272 : Nat) ≠ 299 := ⟨(z_b1 (z_b2 (z_b2 (z_b2 zB_2_32)))), by decide, by decide⟩
theorem zcl_272 : z_cls[12]? = some ((z_mY 272).cls, TX12, 39) := rfl
theorem zc_273 : ∀ m, z_ce m 273 0 := fun _ => z_hcE zK_2_16.2.2.1 (z_b1 (z_b2 (z_b2 (z_b2 (z_b2 zB_2_32)))))
theorem zy_273 : plainName (z_mY 273).cls = true ∧ (273 : Nat) ≠ 128 ∧ (273 : Nat) ≠ 299 := ⟨(z_b1 (z_b2 (z_b2 (z_b2 (z_b2 (z_b2 zB_2_32)))))), by decide, by decide⟩
theorem zcl_273 : z_cls[12]? = some ((z_mY 273).cls, TX12, 39) := rfl
theorem zc_278 : ∀ m, z_ce m 278 1 := fun _ => z_hcE zK_2_16.2.2.2.1 (z_b1 (z_b2 (z_b2 (z_b2 (z_b2 (z_b2 (z_b2 zB_2_32)))))))
theorem zy_278 : plainName (z_mY 278).cls = true ∧ (278 : Nat) ≠ 128 ∧ (278 : Nat) ≠ 299 := ⟨(z_b1 (z_b2 (z_b2 (z_b2 (z_b2 (z_b2 (z_b2 (z_b2 zB_2_32)))))))), by decide, by decide⟩
theorem zcl_278 : z_cls[12]? = some ((z_mY 278).cls, TX12, 39) := rfl
def zB_2_40 := z_b2 (z_b2 (z_b2 (z_b2 (z_b2 (z_b2 (z_b2 (z_b2 zB_2_32)))))))
theorem zc_280 : ∀ m, z_ce m 280 2 := fun _ => z_hcE zK_2_16.2.2.2.2.1 (z_b1 zB_2_40)
theorem zy_280 : plainName (z_mY 280).cls = true ∧ (280 : Nat) ≠ 128 ∧ (280 : Nat) ≠ 299 := ⟨(z_b1 (z_b2 zB_2_40)), by decide, by decide⟩
theorem zcl_280 : z_cls[12]? = some ((z_mY 280).cls, TX12, 39) := rfl
theorem zc_288 : ∀ m, z_ce m 288 2 := fun _ => z_hcE zK_2_16.2.2.2.2.2.1 (z_b1 (z_b2 (z_b2 zB_2_40)))
theorem zy_288 : plainName (z_mY 288).cls = true ∧ (288 : Nat) ≠ 128 ∧ (288 : Nat) ≠ 299 := ⟨(z_b1 (z_b2 (z_b2 (z_b2 zB_2_40)))), by decide, by decide⟩
theorem zcl_288 : z_cls[12]? = some ((z_mY 288).cls, TX12, 39) := rfl
theorem zc_283 : ∀ m, z_ce m 283 0 := fun _ => z_hcE zK_2_16.2.2.2.2.2.2.1 (z_b1 (z_b2 (z_b2 (z_b2 (z_b2 zB_2_40)))))
theorem zy_283 : plainName (z_mY 283).cls = true ∧ (283 : Nat) ≠ 128 ∧ (283 : Nat) ≠ 299 := ⟨(z_b1 (z_b2 (z_b2 (z_b2 (z_b2 (z_b2 zB_2_40)))))), by decide, by decide⟩
theorem zcl_283 : z_cls[12]? = some ((z_mY 283).cls, TX12, 39) := rfl
theorem zc_284 : ∀ m, z_ce m 284 0 := fun _ => z_hcE zK_2_16.2.2.2.2.2.2.2.1 (z_b1 (z_b2 (z_b2 (z_b2 (z_b2 (z_b2 (z_b2 zB_2_40)))))))
theorem zy_284 : plainName (z_mY 284).cls = true ∧ (284 : Nat) ≠ 128 ∧ (284 : Nat) ≠ 299 := ⟨(z_b1 (z_b2 (z_b2 (z_b2 (z_b2 (z_b2 (z_b2 (z_b2 zB_2_40)))))))), by decide, by decide⟩
theorem zcl_284 : z_cls[12]? = some ((z_mY 284).cls, TX12, 39) := rfl
def zK_2_24 := zK_2_16.2.2.2.2.2.2.2.2
def zB_2_48 := z_b2 (z_b2 (z_b2 (z_b2 (z_b2 (z_b2 (z_b2 (z_b2 zB_2_40)))))))
theorem zc_285 : ∀ m, z_ce m 285 0 := fun _ => z_hcE zK_2_24.1 (z_b1 zB_2_48)
theorem zy_285 : plainName (z_mY 285).cls = true ∧ (285 : Nat) ≠ 128 ∧ (285 : Nat) ≠ 299 := ⟨(z_b1 (z_b2 zB_2_48)), by decide, by decide⟩
theorem zcl_285 : z_cls[12]? = some ((z_mY 285).cls, TX12, 39) := rfl
theorem zc_286 : ∀ m, z_ce m 286 0 := fun _ => z_hcE zK_2_24.2.1 (z_b1 (z_b2 (z_b2 zB_2_48)))
theorem zy_286 : plainName (z_mY 286).cls = true ∧ (286 : Nat) ≠ 128 ∧ (286 : Nat) ≠ 299 := ⟨(z_b1 (z_b2 (z_b2 (z_b2 zB_2_48)))), by decide, by decide⟩
theorem zcl_286 : z_cls[12]? = some ((z_mY 286).cls, TX12, 39) := rfl
theorem zc_287 : ∀ m, z_ce m 287 0 := fun _ => z_hcE zK_2_24.2.2.1 (z_b1 (z_b2 (z_b2 (z_b2 (z_b2 zB_2_48)))))
theorem zy_287 : plainName (z_mY 287).cls = true ∧ (287 : Nat) ≠ 128 ∧ (287 : Nat) ≠ 299 := ⟨(z_b1 (z_b2 (z_b2 (z_b2 (z_b2 (z_b2 zB_2_48)))))), by decide, by decide⟩
theorem zcl_287 : z_cls[12]? = some ((z_mY 287).cls, TX12, 39) := rfl
theorem zc_289 : ∀ m, z_ce m 289 0 := fun _ => z_hcE zK_2_24.2.2.2.1 (z_b1 (z_b2 (z_b2 (z_b2 (z_b2 (z_b2 (z_b2 zB_2_48)))))))
theorem zy_289 : plainName (z_mY 289).cls = true ∧ (289 : Nat) ≠ 128 ∧ (289 : Nat) ≠ 299 := ⟨(z_b1 (z_b2 (z_b2 (z_b2 (z_b2 (z_b2 (z_b2 (z_b2 zB_2_48)))))))), by decide, by decide⟩
theorem zcl_289 : z_cls[12]? = some ((z_mY 289).cls, TX12, 39) := rfl
def zB_2_56 := z_b2 (z_b2 (z_b2 (z_b2 (z_b2 (z_b2 (z_b2 (z_b2 zB_2_48)))))))
theorem zc_119 : ∀ m, z_ce m 119 0 := fun _ => z_hcE zK_2_24.2.2.2.2.1 (z_b1 zB_2_56)
theorem zy_119 : plainName (z_mY 119).cls = true ∧ (119 : Nat) ≠ 128 ∧ (119 : Nat) ≠ 299 := ⟨(z_b1 (z_b2 zB_2_56)), by decide, by decide⟩
theorem zcl_119 : z_cls[11]? = some ((z_mY 119).cls, TX11, 19) := rfl
theorem zc_173 : ∀ m, z_ce m 173 0 := fun _ => z_hcE zK_2_24.2.2.2.2.2.1 (z_b1 (z_b2 (z_b2 zB_2_56)))
theorem zy_173 : plainName (z_mY 173).cls = true ∧ (173 : Nat) ≠ 128 ∧ (173 : Nat) ≠ 299 := ⟨(z_b1 (z_b2 (z_b2 (z_b2 zB_2_56)))), by decide, by decide⟩
theorem zcl_173 : z_cls[12]? = some ((z_mY 173).cls, TX12, 39) := rfl
theorem zc_120 : ∀ m, z_ce m 120 5 := fun _ => z_hcE zK_2_24.2.2.2.2.2.2.1 (z_b1 (z_b2 (z_b2 (z_b2 (z_b2 zB_2_56)))))
theorem zy_120 : plainName (z_mY 120).cls = true ∧ (120 : Nat) ≠ 128 ∧ (120 : Nat) ≠ 299 := ⟨(z_b1 (z_b2 (z_b2 (z_b2 (z_b2 (z_b2 zB_2_56)))))), by decide, by decide⟩
theorem zcl_120 : z_cls[11]? = some ((z_mY 120).cls, TX11, 19) := rfl
theorem zc_175 : ∀ m, z_ce m 175 5 := fun _ => z_hcE zK_2_24.2.2.2.2.2.2.2.1 (z_b1 (z_b2 (z_b2 (z_b2 (z_b2 (z_b2 (z_b2 zB_2_56)))))))
theorem zy_175 : plainName (z_mY 175).cls = true ∧ (175 : Nat) ≠ 128 ∧ (175 : Nat) ≠ 299 := ⟨(z_b1 (z_b2 (z_b2 (z_b2 (z_b2 (z_b2 (z_b2 (z_b2 zB_2_56)))))))), by decide, by decide⟩
theorem zcl_175 : z_cls[12]? = some ((z_mY 175).cls, TX12, 39) := rfl
def zK_2_32 := zK_2_24.2.2.2.2.2.2.2.2
def zB_2_64 := z_b2 (z_b2 (z_b2 (z_b2 (z_b2 (z_b2 (z_b2 (z_b2 zB_2_56)))))))
theorem zc_121 : ∀ m, z_ce m 121 1 := fun _ => z_hcE zK_2_32.1 (z_b1 zB_2_64)
theorem zy_121 : plainName (z_mY 121).cls = true ∧ (121 : Nat) ≠ 128 ∧ (121 : Nat) ≠ 299 := ⟨(z_b1 (z_b2 zB_2_64)), by decide, by decide⟩
theorem zcl_121 : z_cls[11]? = some ((z_mY 121).cls, TX11, 19) := rfl
theorem zc_176 : ∀ m, z_ce m 176 1 := fun _ => z_hcE zK_2_32.2.1 (z_b1 (z_b2 (z_b2 zB_2_64)))
theorem zy_176 : plainName (z_mY 176).cls = true ∧ (176 : Nat) ≠ 128 ∧ (176 : Nat) ≠ 299 := ⟨(z_b1 (z_b2 (z_b2 (z_b2 zB_2_64)))), by decide, by decide⟩
theorem zcl_176 : z_cls[12]? = some ((z_mY 176).cls, TX12, 39) := rfl
theorem zc_122 : ∀ m, z_ce m 122 1 := fun _ => z_hcE zK_2_32.2.2.1 (z_b1 (z_b2 (z_b2 (z_b2 (z_b2 zB_2_64)))))
theorem zy_122 : plainName (z_mY 122).cls = true ∧ (122 : Nat) ≠ 128 ∧ (122 : Nat) ≠ 299 := ⟨(z_b1 (z_b2 (z_b2 (z_b2 (z_b2 (z_b2 zB_2_64)))))), by decide, by decide⟩
theorem zcl_122 : z_cls[11]? = some ((z_mY 122).cls, TX11, 19) := rfl
theorem zc_192 : ∀ m, z_ce m 192 1 := fun _ => z_hcE zK_2_32.2.2.2.1 (z_b1 (z_b2 (z_b2 (z_b2 (z_b2 (z_b2 (z_b2 zB_2_64)))))))
theorem zy_192 : plainName (z_mY 192).cls = true ∧ (192 : Nat) ≠ 128 ∧ (192 : Nat) ≠ 299 := ⟨(z_b1 (z_b2 (z_b2 (z_b2 (z_b2 (z_b2 (z_b2 (z_b2 zB_2_64)))))))), by decide, by decide⟩
theorem zcl_192 : z_cls[12]? = some ((z_mY 192).cls, TX12, 39) := rfl
def zB_2_72 := z_b2 (z_b2 (z_b2 (z_b2 (z_b2 (z_b2 (z_b2 (z_b2 zB_2_64)))))))
theorem zc_123 : ∀ m, z_ce m 123 1 := fun _ => z_hcE zK_2_32.2.2.2.2.1 (z_b1 zB_2_72)
theorem zy_123 : plainName (z_mY 123).cls = true ∧ (123 : Nat) ≠ 128 ∧ (123 : Nat) ≠ 299 := ⟨(z_b1 (z_b2 zB_2_72)), by decide, by decide⟩
theorem zcl_123 : z_cls[11]? = some ((z_mY 123).cls, TX11, 19) := rfl
theorem zc_226 : ∀ m, z_ce m 226 1 := fun _ => z_hcE zK_2_32.2.2.2.2.2.1 (z_b1 (z_b2 (z_b2 zB_2_72)))
theorem zy_226 : plainName (z_mY 226).cls = true ∧ (226 : Nat) ≠ 128 ∧ (226 : Nat) ≠ 299 := ⟨(z_b1 (z_b2 (z_b2 (z_b2 zB_2_72)))), by decide, by decide⟩
theorem zcl_226 : z_cls[12]? = some ((z_mY 226).cls, TX12, 39) := rfl
theorem zc_126 : ∀ m, z_ce m 126 1 := fun _ => z_hcE zK_2_32.2.2.2.2.2.2.1 (z_b1 (z_b2 (z_b2 (z_b2 (z_b2 zB_2_72)))))
theorem zy_126 : plainName (z_mY 126).cls = true ∧ (126 : Nat) ≠ 128 ∧ (126 : Nat) ≠ 299 := ⟨(z_b1 (z_b2 (z_b2 (z_b2 (z_b2 (z_b2 zB_2_72)))))), by decide, by decide⟩
theorem zcl_126 : z_cls[11]? = some ((z_mY 126).cls, TX11, 19) := rfl
theorem zc_253 : ∀ m, z_ce m 253 1 := fun _ => z_hcE zK_2_32.2.2.2.2.2.2.2.1 (z_b1 (z_b2 (z_b2 (z_b2 (z_b2 (z_b2 (z_b2 zB_2_72)))))))
theorem zy_253 : plainName (z_mY 253).cls = true ∧ (253 : Nat) ≠ 128 ∧ (253 : Nat) ≠ 299 := ⟨(z_b1 (z_b2 (z_b2 (z_b2 (z_b2 (z_b2 (z_b2 (z_b2 zB_2_72)))))))), by decide, by decide⟩
theorem zcl_253 : z_cls[12]? = some ((z_mY 253).cls, TX12, 39) := rfl
def zK_2_40 := zK_2_32.2.2.2.2.2.2.2.2
def zB_2_80 := z_b2 (z_b2 (z_b2 (z_b2 (z_b2 (z_b2 (z_b2 (z_b2 zB_2_72)))))))
theorem zc_254 : ∀ m, z_ce m 254 2 := fun _ => z_hcE zK_2_40.1 (z_b1 zB_2_80)
theorem zy_254 : plainName (z_mY 254).cls = true ∧ (254 : Nat) ≠ 128 ∧ (254 : Nat) ≠ 299 := ⟨(z_b1 (z_b2 zB_2_80)), by decide, by decide⟩
theorem zcl_254 : z_cls[12]? = some ((z_mY 254).cls, TX12, 39) := rfl
theorem zc_129 : ∀ m, z_ce m 129 2 := fun _ => z_hcE zK_2_40.2.1 (z_b1 (z_b2 (z_b2 zB_2_80)))
theorem zy_129 : plainName (z_mY 129).cls = true ∧ (129 : Nat) ≠ 128 ∧ (129 : Nat) ≠ 299 := ⟨(z_b1 (z_b2 (z_b2 (z_b2 zB_2_80)))), by decide, by decide⟩
theorem zcl_129 : z_cls[11]? = some ((z_mY 129).cls, TX11, 19) := rfl
theorem zc_255 : ∀ m, z_ce m 255 2 := fun _ => z_hcE zK_2_40.2.2.1 (z_b1 (z_b2 (z_b2 (z_b2 (z_b2 zB_2_80)))))
theorem zy_255 : plainName (z_mY 255).cls = true ∧ (255 : Nat) ≠ 128 ∧ (255 : Nat) ≠ 299 := ⟨(z_b1 (z_b2 (z_b2 (z_b2 (z_b2 (z_b2 zB_2_80)))))), by decide, by decide⟩
theorem zcl_255 : z_cls[12]? = some ((z_mY 255).cls, TX12, 39) := rfl
theorem zc_130 : ∀ m, z_ce m 130 2 := fun _ => z_hcE zK_2_40.2.2.2.1 (z_b1 (z_b2 (z_b2 (z_b2 (z_b2 (z_b2 (z_b2 zB_2_80)))))))
theorem zy_130 : plainName (z_mY 130).cls = true ∧ (130 : Nat) ≠ 128 ∧ (130 : Nat) ≠ 299 := ⟨(z_b1 (z_b2 (z_b2 (z_b2 (z_b2 (z_b2 (z_b2 (z_b2 zB_2_80)))))))), by decide, by decide⟩
theorem zcl_130 : z_cls[11]? = some ((z_mY 130).cls, TX11, 19) := rfl
def zB_2_88 := z_b2 (z_b2 (z_b2 (z_b2 (z_b2 (z_b2 (z_b2 (z_b2 zB_2_80)))))))
theorem zc_256 : ∀ m, z_ce m 256 2 := fun _ => z_hcE zK_2_40.2.2.2.2.1 (z_b1 zB_2_88)
theorem zy_256 : plainName (z_mY 256).cls = true ∧ (256 : Nat) ≠ 128 ∧ (256 : Nat) ≠ 299 := ⟨(z_b1 (z_b2 zB_2_88)), by decide, by decide⟩
theorem zcl_256 : z_cls[12]? = some ((z_mY 256).cls, TX12, 39) := rfl
theorem zc_131 : ∀ m, z_ce m 131 4 := fun _ => z_hcE zK_2_40.2.2.2.2.2.1 (z_b1 (z_b2 (z_b2 zB_2_88)))
theorem zy_131 : plainName (z_mY 131).cls = true ∧ (131 : Nat) ≠ 128 ∧ (131 : Nat) ≠ 299 := ⟨(z_b1 (z_b2 (z_b2 (z_b2 zB_2_88)))), by decide, by decide⟩
theorem zcl_131 : z_cls[11]? = some ((z_mY 131).cls, TX11, 19) := rfl
theorem zc_257 : ∀ m, z_ce m 257 4 := fun _ => z_hcE zK_2_40.2.2.2.2.2.2.1 (z_b1 (z_b2 (z_b2 (z_b2 (z_b2 zB_2_88)))))
theorem zy_257 : plainName (z_mY 257).cls = true ∧ (257 : Nat) ≠ 128 ∧ (257 : Nat) ≠ 299 := ⟨(z_b1 (z_b2 (z_b2 (z_b2 (z_b2 (z_b2 zB_2_88)))))), by decide, by decide⟩
theorem zcl_257 : z_cls[12]? = some ((z_mY 257).cls, TX12, 39) := rfl
theorem zc_132 : ∀ m, z_ce m 132 3 := fun _ => z_hcE zK_2_40.2.2.2.2.2.2.2.1 (z_b1 (z_b2 (z_b2 (z_b2 (z_b2 (z_b2 (z_b2 zB_2_88)))))))
theorem zy_132 : plainName (z_mY 132).cls = true ∧ (132 : Nat) ≠ 128 ∧ (132 : Nat) ≠ 299 := ⟨(z_b1 (z_b2 (z_b2 (z_b2 (z_b2 (z_b2 (z_b2 (z_b2 zB_2_88)))))))), by decide, by decide⟩
theorem zcl_132 : z_cls[11]? = some ((z_mY 132).cls, TX11, 19) := rfl
def zK_2_48 := zK_2_40.2.2.2.2.2.2.2.2
def zB_2_96 := z_b2 (z_b2 (z_b2 (z_b2 (z_b2 (z_b2 (z_b2 (z_b2 zB_2_88)))))))
theorem zc_258 : ∀ m, z_ce m 258 3 := fun _ => z_hcE zK_2_48.1 (z_b1 zB_2_96)
theorem zy_258 : plainName (z_mY 258).cls = true ∧ (258 : Nat) ≠ 128 ∧ (258 : Nat) ≠ 299 := ⟨(z_b1 (z_b2 zB_2_96)), by decide, by decide⟩
theorem zcl_258 : z_cls[12]? = some ((z_mY 258).cls, TX12, 39) := rfl
theorem zc_133 : ∀ m, z_ce m 133 5 := fun _ => z_hcE zK_2_48.2.1 (z_b1 (z_b2 (z_b2 zB_2_96)))
theorem zy_133 : plainName (z_mY 133).cls = true ∧ (133 : Nat) ≠ 128 ∧ (133 : Nat) ≠ 299 := ⟨(z_b1 (z_b2 (z_b2 (z_b2 zB_2_96)))), by decide, by decide⟩
theorem zcl_133 : z_cls[11]? = some ((z_mY 133).cls, TX11, 19) := rfl
theorem zc_259 : ∀ m, z_ce m 259 5 := fun _ => z_hcE zK_2_48.2.2.1 (z_b1 (z_b2 (z_b2 (z_b2 (z_b2 zB_2_96)))))
theorem zy_259 : plainName (z_mY 259).cls = true ∧ (259 : Nat) ≠ 128 ∧ (259 : Nat) ≠ 299 := ⟨(z_b1 (z_b2 (z_b2 (z_b2 (z_b2 (z_b2 zB_2_96)))))), by decide, by decide⟩
theorem zcl_259 : z_cls[12]? = some ((z_mY 259).cls, TX12, 39) := rfl
theorem zc_134 : ∀ m, z_ce m 134 2 := fun _ => z_hcE zK_2_48.2.2.2.1 (z_b1 (z_b2 (z_b2 (z_b2 (z_b2 (z_b2 (z_b2 zB_2_96)))))))
theorem zy_134 : plainName (z_mY 134).cls = true ∧ (134 : Nat) ≠ 128 ∧ (134 : Nat) ≠ 299 := ⟨(z_b1 (z_b2 (z_b2 (z_b2 (z_b2 (z_b2 (z_b2 (z_b2 zB_2_96)))))))), by decide, by decide⟩
theorem zcl_134 : z_cls[11]? = some ((z_mY 134).cls, TX11, 19) := rfl
def zB_2_104 := z_b2 (z_b2 (z_b2 (z_b2 (z_b2 (z_b2 (z_b2 (z_b2 zB_2_96)))))))
theorem zc_260 : ∀ m, z_ce m 260 2 := fun _ => z_hcE zK_2_48.2.2.2.2.1 (z_b1 zB_2_104)
theorem zy_260 : plainName (z_mY 260).cls = true ∧ (260 : Nat) ≠ 128 ∧ (260 : Nat) ≠ 299 := ⟨(z_b1 (z_b2 zB_2_104)), by decide, by decide⟩
theorem zcl_260 : z_cls[12]? = some ((z_mY 260).cls, TX12, 39) := rfl
theorem zc_135 : ∀ m, z_ce m 135 1 := fun _ => z_hcE zK_2_48.2.2.2.2.2.1 (z_b1 (z_b2 (z_b2 zB_2_104)))
theorem zy_135 : plainName (z_mY 135).cls = true ∧ (135 : Nat) ≠ 128 ∧ (135 : Nat) ≠ 299 := ⟨(z_b1 (z_b2 (z_b2 (z_b2 zB_2_104)))), by decide, by decide⟩
theorem zcl_135 : z_cls[11]? = some ((z_mY 135).cls, TX11, 19) := rfl
theorem zc_261 : ∀ m, z_ce m 261 1 := fun _ => z_hcE zK_2_48.2.2.2.2.2.2.1 (z_b1 (z_b2 (z_b2 (z_b2 (z_b2 zB_2_104)))))
theorem zy_261 : plainName (z_mY 261).cls = true ∧ (261 : Nat) ≠ 128 ∧ (261 : Nat) ≠ 299 := ⟨(z_b1 (z_b2 (z_b2 (z_b2 (z_b2 (z_b2 zB_2_104)))))), by decide, by decide⟩
theorem zcl_261 : z_cls[12]? = some ((z_mY 261).cls, TX12, 39) := rfl
theorem zc_136 : ∀ m, z_ce m 136 1 := fun _ => z_hcE zK_2_48.2.2.2.2.2.2.2.1 (z_b1 (z_b2 (z_b2 (z_b2 (z_b2 (z_b2 (z_b2 zB_2_104)))))))
theorem zy_136 : plainName (z_mY 136).cls = true ∧ (136 : Nat) ≠ 128 ∧ (136 : Nat) ≠ 299 := ⟨(z_b1 (z_b2 (z_b2 (z_b2 (z_b2 (z_b2 (z_b2 (z_b2 zB_2_104)))))))), by decide, by decide⟩
theorem zcl_136 : z_cls[11]? = some ((z_mY 136).cls, TX11, 19) := rfl
def zK_2_56 := zK_2_48.2.2.2.2.2.2.2.2
def zB_2_112 := z_b2 (z_b2 (z_b2 (z_b2 (z_b2 (z_b2 (z_b2 (z_b2 zB_2_104)))))))
theorem zc_262 : ∀ m, z_ce m 262 1 := fun _ => z_hcE zK_2_56.1 (z_b1 zB_2_112)
theorem zy_262 : plainName (z_mY 262).cls = true ∧ (262 : Nat) ≠ 128 ∧ (262 : Nat) ≠ 299 := ⟨(z_b1 (z_b2 zB_2_112)), by decide, by decide⟩
theorem zcl_262 : z_cls[12]? = some ((z_mY 262).cls, TX12, 39) := rfl
theorem zc_137 : ∀ m, z_ce m 137 5 := fun _ => z_hcE zK_2_56.2.1 (z_b1 (z_b2 (z_b2 zB_2_112)))
theorem zy_137 : plainName (z_mY 137).cls = true ∧ (137 : Nat) ≠ 128 ∧ (137 : Nat) ≠ 299 := ⟨(z_b1 (z_b2 (z_b2 (z_b2 zB_2_112)))), by decide, by decide⟩
theorem zcl_137 : z_cls[11]? = some ((z_mY 137).cls, TX11, 19) := rfl
theorem zc_238 : ∀ m, z_ce m 238 5 := fun _ => z_hcE zK_2_56.2.2.1 (z_b1 (z_b2 (z_b2 (z_b2 (z_b2 zB_2_112)))))
theorem zy_238 : plainName (z_mY 238).cls = true ∧ (238 : Nat) ≠ 128 ∧ (238 : Nat) ≠ 299 := ⟨(z_b1 (z_b2 (z_b2 (z_b2 (z_b2 (z_b2 zB_2_112)))))), by decide, by decide⟩
theorem zcl_238 : z_cls[12]? = some ((z_mY 238).cls, TX12, 39) := rfl
theorem zc_138 : ∀ m, z_ce m 138 1 := fun _ => z_hcE zK_2_56.2.2.2.1 (z_b1 (z_b2 (z_b2 (z_b2 (z_b2 (z_b2 (z_b2 zB_2_112)))))))
theorem zy_138 : plainName (z_mY 138).cls = true ∧ (138 : Nat) ≠ 128 ∧ (138 : Nat) ≠ 299 := ⟨(z_b1 (z_b2 (z_b2 (z_b2 (z_b2 (z_b2 (z_b2 (z_b2 zB_2_112)))))))), by decide, by decide⟩
theorem zcl_138 : z_cls[11]? = some ((z_mY 138).cls, TX11, 19) := rfl
def zB_2_120 := z_b2 (z_b2 (z_b2 (z_b2 (z_b2 (z_b2 (z_b2 (z_b2 zB_2_112)))))))
theorem zc_239 : ∀ m, z_ce m 239 1 := fun _ => z_hcE zK_2_56.2.2.2.2.1 (z_b1 zB_2_120)
theorem zy_239 : plainName (z_mY 239).cls = true ∧ (239 : Nat) ≠ 128 ∧ (239 : Nat) ≠ 299 := ⟨(z_b1 (z_b2 zB_2_120)), by decide, by decide⟩
theorem zcl_239 : z_cls[12]? = some ((z_mY 239).cls, TX12, 39) := rfl
theorem zc_139 : ∀ m, z_ce m 139 2 := fun _ => z_hcE zK_2_56.2.2.2.2.2.1 (z_b1 (z_b2 (z_b2 zB_2_120)))
theorem zy_139 : plainName (z_mY 139).cls = true ∧ (139 : Nat) ≠ 128 ∧ (139 : Nat) ≠ 299 := ⟨(z_b1 (z_b2 (z_b2 (z_b2 zB_2_120)))), by decide, by decide⟩
theorem zcl_139 : z_cls[11]? = some ((z_mY 139).cls, TX11, 19) := rfl
theorem zc_240 : ∀ m, z_ce m 240 2 := fun _ => z_hcE zK_2_56.2.2.2.2.2.2.1 (z_b1 (z_b2 (z_b2 (z_b2 (z_b2 zB_2_120)))))
theorem zy_240 : plainName (z_mY 240).cls = true ∧ (240 : Nat) ≠ 128 ∧ (240 : Nat) ≠ 299 := ⟨(z_b1 (z_b2 (z_b2 (z_b2 (z_b2 (z_b2 zB_2_120)))))), by decide, by decide⟩
theorem zcl_240 : z_cls[12]? = some ((z_mY 240).cls, TX12, 39) := rfl
theorem zc_140 : ∀ m, z_ce m 140 2 := fun _ => z_hcE zK_2_56.2.2.2.2.2.2.2.1 (z_b1 (z_b2 (z_b2 (z_b2 (z_b2 (z_b2 (z_b2 zB_2_120)))))))
theorem zy_140 : plainName (z_mY 140).cls = true ∧ (140 : Nat) ≠ 128 ∧ (140 : Nat) ≠ 299 := ⟨(z_b1 (z_b2 (z_b2 (z_b2 (z_b2 (z_b2 (z_b2 (z_b2 zB_2_120)))))))), by decide, by decide⟩
theorem zcl_140 : z_cls[11]? = some ((z_mY 140).cls, TX11, 19) := rfl
def zK_2_64 := zK_2_56.2.2.2.2.2.2.2.2
def zB_2_128 := z_b2 (z_b2 (z_b2 (z_b2 (z_b2 (z_b2 (z_b2 (z_b2 zB_2_120)))))))
theorem zc_241 : ∀ m, z_ce m 241 2 := fun _ => z_hcE zK_2_64.1 (z_b1 zB_2_128)
theorem zy_241 : plainName (z_mY 241).cls = true ∧ (241 : Nat) ≠ 128 ∧ (241 : Nat) ≠ 299 := ⟨(z_b1 (z_b2 zB_2_128)), by decide, by decide⟩
theorem zcl_241 : z_cls[12]? = some ((z_mY 241).cls, TX12, 39) := rfl
theorem zc_143 : ∀ m, z_ce m 143 2 := fun _ => z_hcE zK_2_64.2.1 (z_b1 (z_b2 (z_b2 zB_2_128)))
theorem zy_143 : plainName (z_mY 143).cls = true ∧ (143 : Nat) ≠ 128 ∧ (143 : Nat) ≠ 299 := ⟨(z_b1 (z_b2 (z_b2 (z_b2 zB_2_128)))), by decide, by decide⟩
theorem zcl_143 : z_cls[11]? = some ((z_mY 143).cls, TX11, 19) := rfl
theorem zc_246 : ∀ m, z_ce m 246 2 := fun _ => z_hcE zK_2_64.2.2.1 (z_b1 (z_b2 (z_b2 (z_b2 (z_b2 zB_2_128)))))
theorem zy_246 : plainName (z_mY 246).cls = true ∧ (246 : Nat) ≠ 128 ∧ (246 : Nat) ≠ 299 := ⟨(z_b1 (z_b2 (z_b2 (z_b2 (z_b2 (z_b2 zB_2_128)))))), by decide, by decide⟩
theorem zcl_246 : z_cls[12]? = some ((z_mY 246).cls, TX12, 39) := rfl
theorem zc_146 : ∀ m, z_ce m 146 1 := fun _ => z_hcE zK_2_64.2.2.2.1 (z_b1 (z_b2 (z_b2 (z_b2 (z_b2 (z_b2 (z_b2 zB_2_128)))))))
theorem zy_146 : plainName (z_mY 146).cls = true ∧ (146 : Nat) ≠ 128 ∧ (146 : Nat) ≠ 299 := ⟨(z_b1 (z_b2 (z_b2 (z_b2 (z_b2 (z_b2 (z_b2 (z_b2 zB_2_128)))))))), by decide, by decide⟩
theorem zcl_146 : z_cls[11]? = some ((z_mY 146).cls, TX11, 19) := rfl
def zB_2_136 := z_b2 (z_b2 (z_b2 (z_b2 (z_b2 (z_b2 (z_b2 (z_b2 zB_2_128)))))))
theorem zc_247 : ∀ m, z_ce m 247 1 := fun _ => z_hcE zK_2_64.2.2.2.2.1 (z_b1 zB_2_136)
theorem zy_247 : plainName (z_mY 247).cls = true ∧ (247 : Nat) ≠ 128 ∧ (247 : Nat) ≠ 299 := ⟨(z_b1 (z_b2 zB_2_136)), by decide, by decide⟩
theorem zcl_247 : z_cls[12]? = some ((z_mY 247).cls, TX12, 39) := rfl
theorem zc_147 : ∀ m, z_ce m 147 0 := fun _ => z_hcE zK_2_64.2.2.2.2.2.1 (z_b1 (z_b2 (z_b2 zB_2_136)))
theorem zy_147 : plainName (z_mY 147).cls = true ∧ (147 : Nat) ≠ 128 ∧ (147 : Nat) ≠ 299 := ⟨(z_b1 (z_b2 (z_b2 (z_b2 zB_2_136)))), by decide, by decide⟩
theorem zcl_147 : z_cls[11]? = some ((z_mY 147).cls, TX11, 19) := rfl
theorem zc_248 : ∀ m, z_ce m 248 0 := fun _ => z_hcE zK_2_64.2.2.2.2.2.2.1 (z_b1 (z_b2 (z_b2 (z_b2 (z_b2 zB_2_136)))))
theorem zy_248 : plainName (z_mY 248).cls = true ∧ (248 : Nat) ≠ 128 ∧ (248 : Nat) ≠ 299 := ⟨(z_b1 (z_b2 (z_b2 (z_b2 (z_b2 (z_b2 zB_2_136)))))), by decide, by decide⟩
theorem zcl_248 : z_cls[12]? = some ((z_mY 248).cls, TX12, 39) := rfl
theorem zc_148 : ∀ m, z_ce m 148 2 := fun _ => z_hcE zK_2_64.2.2.2.2.2.2.2.1 (z_b1 (z_b2 (z_b2 (z_b2 (z_b2 (z_b2 (z_b2 zB_2_136)))))))
theorem zy_148 : plainName (z_mY 148).cls = true ∧ (148 : Nat) ≠ 128 ∧ (148 : Nat) ≠ 299 := ⟨(z_b1 (z_b2 (z_b2 (z_b2 (z_b2 (z_b2 (z_b2 (z_b2 zB_2_136)))))))), by decide, by decide⟩
theorem zcl_148 : z_cls[11]? = some ((z_mY 148).cls, TX11, 19) := rfl
def zK_2_72 := zK_2_64.2.2.2.2.2.2.2.2
def zB_2_144 := z_b2 (z_b2 (z_b2 (z_b2 (z_b2 (z_b2 (z_b2 (z_b2 zB_2_136)))))))
theorem zc_249 : ∀ m, z_ce m 249 2 := fun _ => z_hcE zK_2_72.1 (z_b1 zB_2_144)
theorem zy_249 : plainName (z_mY 249).cls = true ∧ (249 : Nat) ≠ 128 ∧ (249 : Nat) ≠ 299 := ⟨(z_b1 (z_b2 zB_2_144)), by decide, by decide⟩
theorem zcl_249 : z_cls[12]? = some ((z_mY 249).cls, TX12, 39) := rfl
theorem zc_149 : ∀ m, z_ce m 149 0 := fun _ => z_hcE zK_2_72.2.1 (z_b1 (z_b2 (z_b2 zB_2_144)))
theorem zy_149 : plainName (z_mY 149).cls = true ∧ (149 : Nat) ≠ 128 ∧ (149 : Nat) ≠ 299 := ⟨(z_b1 (z_b2 (z_b2 (z_b2 zB_2_144)))), by decide, by decide⟩
theorem zcl_149 : z_cls[11]? = some ((z_mY 149).cls, TX11, 19) := rfl
theorem zc_264 : ∀ m, z_ce m 264 0 := fun _ => z_hcE zK_2_72.2.2.1 (z_b1 (z_b2 (z_b2 (z_b2 (z_b2 zB_2_144)))))
theorem zy_264 : plainName (z_mY 264).cls = true ∧ (264 : Nat) ≠ 128 ∧ (264 : Nat) ≠ 299 := ⟨(z_b1 (z_b2 (z_b2 (z_b2 (z_b2 (z_b2 zB_2_144)))))), by decide, by decide⟩
theorem zcl_264 : z_cls[12]? = some ((z_mY 264).cls, TX12, 39) := rfl
theorem zc_150 : ∀ m, z_ce m 150 1 := fun _ => z_hcE zK_2_72.2.2.2.1 (z_b1 (z_b2 (z_b2 (z_b2 (z_b2 (z_b2 (z_b2 zB_2_144)))))))
theorem zy_150 : plainName (z_mY 150).cls = true ∧ (150 : Nat) ≠ 128 ∧ (150 : Nat) ≠ 299 := ⟨(z_b1 (z_b2 (z_b2 (z_b2 (z_b2 (z_b2 (z_b2 (z_b2 zB_2_144)))))))), by decide, by decide⟩
theorem zcl_150 : z_cls[11]? = some ((z_mY 150).cls, TX11, 19) := rfl
def zB_2_152 := z_b2 (z_b2 (z_b2 (z_b2 (z_b2 (z_b2 (z_b2 (z_b2 zB_2_144)))))))
theorem zc_266 : ∀ m, z_ce m 266 1 := fun _ => z_hcE zK_2_72.2.2.2.2.1 (z_b1 zB_2_152)
theorem zy_266 : plainName (z_mY 266).cls = true ∧ (266 : Nat) ≠ 128 ∧ (266 : Nat) ≠ 299 := ⟨(z_b1 (z_b2 zB_2_152)), by decide, by decide⟩
theorem zcl_266 : z_cls[12]? = some ((z_mY 266).cls, TX12, 39) := rfl
theorem zc_151 : ∀ m, z_ce m 151 2 := fun _ => z_hcE zK_2_72.2.2.2.2.2.1 (z_b1 (z_b2 (z_b2 zB_2_152)))
theorem zy_151 : plainName (z_mY 151).cls = true ∧ (151 : Nat) ≠ 128 ∧ (151 : Nat) ≠ 299 := ⟨(z_b1 (z_b2 (z_b2 (z_b2 zB_2_152)))), by decide, by decide⟩
theorem zcl_151 : z_cls[11]? = some ((z_mY 151).cls, TX11, 19) := rfl
theorem zc_270 : ∀ m, z_ce m 270 2 := fun _ => z_hcE zK_2_72.2.2.2.2.2.2.1 (z_b1 (z_b2 (z_b2 (z_b2 (z_b2 zB_2_152)))))
theorem zy_270 : plainName (z_mY 270).cls = true ∧ (270 : Nat) ≠ 128 ∧ (270 : Nat) ≠ 299 := ⟨(z_b1 (z_b2 (z_b2 (z_b2 (z_b2 (z_b2 zB_2_152)))))), by decide, by decide⟩
theorem zcl_270 : z_cls[12]? = some ((z_mY 270).cls, TX12, 39) := rfl
theorem zc_152 : ∀ m, z_ce m 152 1 := fun _ => z_hcE zK_2_72.2.2.2.2.2.2.2.1 (z_b1 (z_b2 (z_b2 (z_b2 (z_b2 (z_b2 (z_b2 zB_2_152)))))))
theorem zy_152 : plainName (z_mY 152).cls = true ∧ (152 : Nat) ≠ 128 ∧ (152 : Nat) ≠ 299 := ⟨(z_b1 (z_b2 (z_b2 (z_b2 (z_b2 (z_b2 (z_b2 (z_b2 zB_2_152)))))))), by decide, by decide⟩
theorem zcl_152 : z_cls[11]? = some ((z_mY 152).cls, TX11, 19) := rfl
def zK_2_80 := zK_2_72.2.2.2.2.2.2.2.2
def zB_2_160 := z_b2 (z_b2 (z_b2 (z_b2 (z_b2 (z_b2 (z_b2 (z_b2 zB_2_152)))))))
theorem zc_271 : ∀ m, z_ce m 271 1 := fun _ => z_hcE zK_2_80.1 (z_b1 zB_2_160)
theorem zy_271 : plainName (z_mY 271).cls = true ∧ (271 : Nat) ≠ 128 ∧ (271 : Nat) ≠ 299 := ⟨(z_b1 (z_b2 zB_2_160)), by decide, by decide⟩
theorem zcl_271 : z_cls[12]? = some ((z_mY 271).cls, TX12, 39) := rfl
theorem zc_153 : ∀ m, z_ce m 153 6 := fun _ => z_hcE zK_2_80.2.1 (z_b1 (z_b2 (z_b2 zB_2_160)))
theorem zy_153 : plainName (z_mY 153).cls = true ∧ (153 : Nat) ≠ 128 ∧ (153 : Nat) ≠ 299 := ⟨(z_b1 (z_b2 (z_b2 (z_b2 zB_2_160)))), by decide, by decide⟩
theorem zcl_153 : z_cls[11]? = some ((z_mY 153).cls, TX11, 19) := rfl
theorem zc_274 : ∀ m, z_ce m 274 6 := fun _ => z_hcE zK_2_80.2.2.1 (z_b1 (z_b2 (z_b2 (z_b2 (z_b2 zB_2_160)))))
theorem zy_274 : plainName (z_mY 274).cls = true ∧ (274 : Nat) ≠ 128 ∧ (274 : Nat) ≠ 299 := ⟨(z_b1 (z_b2 (z_b2 (z_b2 (z_b2 (z_b2 zB_2_160)))))), by decide, by decide⟩
theorem zcl_274 : z_cls[12]? = some ((z_mY 274).cls, TX12, 39) := rfl
theorem zc_154 : ∀ m, z_ce m 154 4 := fun _ => z_hcE zK_2_80.2.2.2.1 (z_b1 (z_b2 (z_b2 (z_b2 (z_b2 (z_b2 (z_b2 zB_2_160)))))))
theorem zy_154 : plainName (z_mY 154).cls = true ∧ (154 : Nat) ≠ 128 ∧ (154 : Nat) ≠ 299 := ⟨(z_b1 (z_b2 (z_b2 (z_b2 (z_b2 (z_b2 (z_b2 (z_b2 zB_2_160)))))))), by decide, by decide⟩
theorem zcl_154 : z_cls[11]? = some ((z_mY 154).cls, TX11, 19) := rfl
def zB_2_168 := z_b2 (z_b2 (z_b2 (z_b2 (z_b2 (z_b2 (z_b2 (z_b2 zB_2_160)))))))
theorem zc_275 : ∀ m, z_ce m 275 4 := fun _ => z_hcE zK_2_80.2.2.2.2.1 (z_b1 zB_2_168)
theorem zy_275 : plainName (z_mY 275).cls = true ∧ (275 : Nat) ≠ 128 ∧ (275 : Nat) ≠ 299 := ⟨(z_b1 (z_b2 zB_2_168)), by decide, by decide⟩
theorem zcl_275 : z_cls[12]? = some ((z_mY 275).cls, TX12, 39) := rfl
theorem zc_155 : ∀ m, z_ce m 155 2 := fun _ => z_hcE zK_2_80.2.2.2.2.2.1 (z_b1 (z_b2 (z_b2 zB_2_168)))
theorem zy_155 : plainName (z_mY 155).cls = true ∧ (155 : Nat) ≠ 128 ∧ (155 : Nat) ≠ 299 := ⟨(z_b1 (z_b2 (z_b2 (z_b2 zB_2_168)))), by decide, by decide⟩
theorem zcl_155 : z_cls[11]? = some ((z_mY 155).cls, TX11, 19) := rfl
theorem zc_276 : ∀ m, z_ce m 276 2 := fun _ => z_hcE zK_2_80.2.2.2.2.2.2.1 (z_b1 (z_b2 (z_b2 (z_b2 (z_b2 zB_2_168)))))
theorem zy_276 : plainName (z_mY 276).cls = true ∧ (276 : Nat) ≠ 128 ∧ (276 : Nat) ≠ 299 := ⟨(z_b1 (z_b2 (z_b2 (z_b2 (z_b2 (z_b2 zB_2_168)))))), by decide, by decide⟩
theorem zcl_276 : z_cls[12]? = some ((z_mY 276).cls, TX12, 39) := rfl
theorem zc_156 : ∀ m, z_ce m 156 2 := fun _ => z_hcE zK_2_80.2.2.2.2.2.2.2.1 (z_b1 (z_b2 (z_b2 (z_b2 (z_b2 (z_b2 (z_b2 zB_2_168)))))))
theorem zy_156 : plainName (z_mY 156).cls = true ∧ (156 : Nat) ≠ 128 ∧ (156 : Nat) ≠ 299 := ⟨(z_b1 (z_b2 (z_b2 (z_b2 (z_b2 (z_b2 (z_b2 (z_b2 zB_2_168)))))))), by decide, by decide⟩
theorem zcl_156 : z_cls[11]? = some ((z_mY 156).cls, TX11, 19) := rfl
def zK_2_88 := zK_2_80.2.2.2.2.2.2.2.2
def zB_2_176 := z_b2 (z_b2 (z_b2 (z_b2 (z_b2 (z_b2 (z_b2 (z_b2 zB_2_168)))))))
theorem zc_277 : ∀ m, z_ce m 277 2 := fun _ => z_hcE zK_2_88.1 (z_b1 zB_2_176)
theorem zy_277 : plainName (z_mY 277).cls = true ∧ (277 : Nat) ≠ 128 ∧ (277 : Nat) ≠ 299 := ⟨(z_b1 (z_b2 zB_2_176)), by decide, by decide⟩
theorem zcl_277 : z_cls[12]? = some ((z_mY 277).cls, TX12, 39) := rfl
theorem zc_157 : ∀ m, z_ce m 157 3 := fun _ => z_hcE zK_2_88.2.1 (z_b1 (z_b2 (z_b2 zB_2_176)))
theorem zy_157 : plainName (z_mY 157).cls = true ∧ (157 : Nat) ≠ 128 ∧ (157 : Nat) ≠ 299 := ⟨(z_b1 (z_b2 (z_b2 (z_b2 zB_2_176)))), by decide, by decide⟩
theorem zcl_157 : z_cls[11]? = some ((z_mY 157).cls, TX11, 19) := rfl
theorem zc_279 : ∀ m, z_ce m 279 3 := fun _ => z_hcE zK_2_88.2.2.1 (z_b1 (z_b2 (z_b2 (z_b2 (z_b2 zB_2_176)))))
theorem zy_279 : plainName (z_mY 279).cls = true ∧ (279 : Nat) ≠ 128 ∧ (279 : Nat) ≠ 299 := ⟨(z_b1 (z_b2 (z_b2 (z_b2 (z_b2 (z_b2 zB_2_176)))))), by decide, by decide⟩
theorem zcl_279 : z_cls[12]? = some ((z_mY 279).cls, TX12, 39) := rfl
theorem zc_158 : ∀ m, z_ce m 158 2 := fun _ => z_hcE zK_2_88.2.2.2.1 (z_b1 (z_b2 (z_b2 (z_b2 (z_b2 (z_b2 (z_b2 zB_2_176)))))))
theorem zy_158 : plainName (z_mY 158).cls = true ∧ (158 : Nat) ≠ 128 ∧ (158 : Nat) ≠ 299 := ⟨(z_b1 (z_b2 (z_b2 (z_b2 (z_b2 (z_b2 (z_b2 (z_b2 zB_2_176)))))))), by decide, by decide⟩
theorem zcl_158 : z_cls[11]? = some ((z_mY 158).cls, TX11, 19) := rfl
def zB_2_184 := z_b2 (z_b2 (z_b2 (z_b2 (z_b2 (z_b2 (z_b2 (z_b2 zB_2_176)))))))
theorem zc_281 : ∀ m, z_ce m 281 2 := fun _ => z_hcE zK_2_88.2.2.2.2.1 (z_b1 zB_2_184)
theorem zy_281 : plainName (z_mY 281).cls = true ∧ (281 : Nat) ≠ 128 ∧ (281 : Nat) ≠ 299 := ⟨(z_b1 (z_b2 zB_2_184)), by decide, by decide⟩
theorem zcl_281 : z_cls[12]? = some ((z_mY 281).cls, TX12, 39) := rfl
theorem zc_159 : ∀ m, z_ce m 159 1 := fun _ => z_hcE zK_2_88.2.2.2.2.2.1 (z_b1 (z_b2 (z_b2 zB_2_184)))
theorem zy_159 : plainName (z_mY 159).cls = true ∧ (159 : Nat) ≠ 128 ∧ (159 : Nat) ≠ 299 := ⟨(z_b1 (z_b2 (z_b2 (z_b2 zB_2_184)))), by decide, by decide⟩
theorem zcl_159 : z_cls[11]? = some ((z_mY 159).cls, TX11, 19) := rfl
theorem zc_282 : ∀ m, z_ce m 282 1 := fun _ => z_hcE zK_2_88.2.2.2.2.2.2.1 (z_b1 (z_b2 (z_b2 (z_b2 (z_b2 zB_2_184)))))
theorem zy_282 : plainName (z_mY 282).cls = true ∧ (282 : Nat) ≠ 128 ∧ (282 : Nat) ≠ 299 := ⟨(z_b1 (z_b2 (z_b2 (z_b2 (z_b2 (z_b2 zB_2_184)))))), by decide, by decide⟩
theorem zcl_282 : z_cls[12]? = some ((z_mY 282).cls, TX12, 39) := rfl
theorem zc_162 : ∀ m, z_ce m 162 1 := fun _ => z_hcE zK_2_88.2.2.2.2.2.2.2.1 (z_b1 (z_b2 (z_b2 (z_b2 (z_b2 (z_b2 (z_b2 zB_2_184)))))))
theorem zy_162 : plainName (z_mY 162).cls = true ∧ (162 : Nat) ≠ 128 ∧ (162 : Nat) ≠ 299 := ⟨(z_b1 (z_b2 (z_b2 (z_b2 (z_b2 (z_b2 (z_b2 (z_b2 zB_2_184)))))))), by decide, by decide⟩
theorem zcl_162 : z_cls[11]? = some ((z_mY 162).cls, TX11, 19) := rfl
def zK_2_96 := zK_2_88.2.2.2.2.2.2.2.2
def zB_2_192 := z_b2 (z_b2 (z_b2 (z_b2 (z_b2 (z_b2 (z_b2 (z_b2 zB_2_184)))))))
theorem zc_290 : ∀ m, z_ce m 290 1 := fun _ => z_hcE zK_2_96.1 (z_b1 zB_2_192)
theorem zy_290 : plainName (z_mY 290).cls = true ∧ (290 : Nat) ≠ 128 ∧ (290 : Nat) ≠ 299 := ⟨(z_b1 (z_b2 zB_2_192)), by decide, by decide⟩
theorem zcl_290 : z_cls[12]? = some ((z_mY 290).cls, TX12, 39) := rfl
theorem zc_163 : ∀ m, z_ce m 163 0 := fun _ => z_hcE zK_2_96.2.1 (z_b1 (z_b2 (z_b2 zB_2_192)))
theorem zy_163 : plainName (z_mY 163).cls = true ∧ (163 : Nat) ≠ 128 ∧ (163 : Nat) ≠ 299 := ⟨(z_b1 (z_b2 (z_b2 (z_b2 zB_2_192)))), by decide, by decide⟩
theorem zcl_163 : z_cls[11]? = some ((z_mY 163).cls, TX11, 19) := rfl
theorem zc_291 : ∀ m, z_ce m 291 0 := fun _ => z_hcE zK_2_96.2.2.1 (z_b1 (z_b2 (z_b2 (z_b2 (z_b2 zB_2_192)))))
theorem zy_291 : plainName (z_mY 291).cls = true ∧ (291 : Nat) ≠ 128 ∧ (291 : Nat) ≠ 299 := ⟨(z_b1 (z_b2 (z_b2 (z_b2 (z_b2 (z_b2 zB_2_192)))))), by decide, by decide⟩
theorem zcl_291 : z_cls[12]? = some ((z_mY 291).cls, TX12, 39) := rfl
theorem zc_164 : ∀ m, z_ce m 164 0 := fun _ => z_hcE zK_2_96.2.2.2.1 (z_b1 (z_b2 (z_b2 (z_b2 (z_b2 (z_b2 (z_b2 zB_2_192)))))))
theorem zy_164 : plainName (z_mY 164).cls = true ∧ (164 : Nat) ≠ 128 ∧ (164 : Nat) ≠ 299 := ⟨(z_b1 (z_b2 (z_b2 (z_b2 (z_b2 (z_b2 (z_b2 (z_b2 zB_2_192)))))))), by decide, by decide⟩
set_option maxRecDepth 100000 in
theorem zB_3_0 : (decide (z_hc 292 0) && (decide (plainName (z_mY 292).cls = true) && (decide (z_hc 165 1) && (decide (plainName (z_mY 165).cls = true) && (decide (z_hc 293 1) && (decide (plainName (z_mY 293).cls = true) && (decide (z_hw 313 (Cond.methodLink (z_mY 0).cls 3 objectInit)) && (decide (z_hw 145 (Cond.instanceMethod objectInit)) && (decide (z_hw 146 (Cond.code objectInit ⟨#[0xb1]⟩ 1 none)) && (decide (z_hw 314 (Cond.fieldLink (z_mY 1).cls 9 "SlabMap$Act" "sort" "I")) && (decide (z_hw 319 (Cond.fieldLink (z_mY 1).cls 15 "SlabMap$Act" "x" "I")) && (decide (z_hw 321 (Cond.fieldLink (z_mY 1).cls 18 "SlabMap$Act" "y" "I")) && (decide (z_hw 323 (Cond.fieldLink (z_mY 1).cls 21 "SlabMap$Act" "toX" "I")) && (decide (z_hw 325 (Cond.fieldLink (z_mY 1).cls 24 "SlabMap$Act" "toY" "I")) && (decide (z_hw 327 (Cond.fieldLink (z_mY 1).cls 27 "SlabMap$Act" "region" "I")) && (decide (z_hw 317 (Cond.fieldLink (z_mY 2).cls 30 "SlabMap$Act" "edge" "I")) && (decide (z_hw 179 (Cond.fieldLink (z_mY 5).cls 33 "SlabMap$Steps" "numbers" "[I")) && (decide (z_hw 126 (Cond.initialized "SlabMap$Act")) && (decide (z_hw 1077 (Cond.methodLink (z_mY 5).cls 39 (z_mY 6))) && (decide (z_hw 552 (Cond.instanceMethod (z_mY 6))) && (decide (z_hw 553 (Cond.selects (z_mY 6).cls (z_mY 6) (z_mY 6))) && (decide (z_hw 556 (Cond.methodLink (z_mY 6).cls 46 (z_mY 1))) && (decide (z_hw 557 (Cond.instanceMethod (z_mY 1))) && (decide (z_hw 558 (Cond.selects (z_mY 1).cls (z_mY 1) (z_mY 1))) && (decide (z_hw 560 (Cond.methodLink (z_mY 6).cls 50 (z_mY 2))) && (decide (z_hw 561 (Cond.instanceMethod (z_mY 2))) && (decide (z_hw 562 (Cond.selects (z_mY 2).cls (z_mY 2) (z_mY 2))) && (decide (z_hw 564 (Cond.methodLink (z_mY 6).cls 54 (z_mY 3))) && (decide (z_hw 565 (Cond.instanceMethod (z_mY 3))) && (decide (z_hw 566 (Cond.selects (z_mY 3).cls (z_mY 3) (z_mY 3))) && (decide (z_hw 568 (Cond.methodLink (z_mY 6).cls 58 (z_mY 4))) && (decide (z_hw 569 (Cond.instanceMethod (z_mY 4))) && (decide (z_hw 570 (Cond.selects (z_mY 4).cls (z_mY 4) (z_mY 4))) && (decide (z_hw 371 (Cond.methodLink (z_mY 8).cls 3 objectInit)) && (decide (z_hw 163 (Cond.arrayClass .int)) && (decide (z_hw 374 (Cond.fieldLink (z_mY 8).cls 9 "SlabMap$Colours" "colour" "[I")) && (decide (z_hw 372 (Cond.fieldLink (z_mY 9).cls 15 "SlabMap$Colours" "many" "I")) && (decide (z_hw 128 (Cond.initialized "SlabMap$Colours")) && (decide (z_hw 845 (Cond.methodLink (z_mY 9).cls 19 (z_mY 11))) && (decide (z_hw 846 (Cond.static (z_mY 11))) && (decide (z_hw 117 (Cond.initialized "SlabMap")) && (decide (z_hw 584 (Cond.static (z_mY 167))) && (decide (z_hw 848 (Cond.methodLink (z_mY 11).cls 27 (z_mY 12))) && (decide (z_hw 849 (Cond.static (z_mY 12))) && (decide (z_hw 131 (Cond.initialized "java/lang/Math")) && (decide (z_hw 908 (Cond.methodLink (z_mY 13).cls 1 objectInit)) && (decide (z_hw 909 (Cond.fieldLink (z_mY 13).cls 7 "SlabMap$Draws" "x" "J")) && (decide (z_hw 921 (Cond.constantLong (z_mY 14).cls 13 (6364136223846793005))) && (decide (z_hw 922 (Cond.constantLong (z_mY 14).cls 15 (1442695040888963407))) && (decide (z_hw 222 (Cond.methodLink (z_mY 15).cls 3 objectInit)) && (decide (z_hw 226 (Cond.fieldLink (z_mY 15).cls 11 "SlabMap$Edges" "row" "[I")) && (decide (z_hw 122 (Cond.initialized "java/util/Arrays")) && (decide (z_hw 223 (Cond.methodLink (z_mY 15).cls 15 (z_mY 298))) && (decide (z_hw 224 (Cond.static (z_mY 298))) && (decide (z_hw 228 (Cond.fieldLink (z_mY 16).cls 21 "SlabMap$Edges" "count" "I")) && (decide (z_hw 775 (Cond.methodLink (z_mY 17).cls 25 arraycopyName)) && (decide (z_hw 545 (Cond.native arraycopyName)) && (decide (z_hw 544 (Cond.static arraycopyName)) && (decide (z_hw 130 (Cond.initialized "java/lang/System")) && (decide (z_hw 121 (Cond.initialized "SlabMap$Edges")) && (decide (z_hw 590 (Cond.methodLink (z_mY 18).cls 31 (z_mY 19))) && (decide (z_hw 591 (Cond.instanceMethod (z_mY 19))) && (decide (z_hw 592 (Cond.selects (z_mY 19).cls (z_mY 19) (z_mY 19))) && (decide (z_hw 736 (Cond.methodLink (z_mY 27).cls 35 (z_mY 26))) && (decide (z_hw 737 (Cond.instanceMethod (z_mY 26))) && (decide (z_hw 738 (Cond.selects (z_mY 26).cls (z_mY 26) (z_mY 26))) && (decide (z_hw 740 (Cond.methodLink (z_mY 27).cls 39 (z_mY 25))) && (decide (z_hw 741 (Cond.instanceMethod (z_mY 25))) && (decide (z_hw 742 (Cond.selects (z_mY 25).cls (z_mY 25) (z_mY 25))) && (decide (z_hw 598 (Cond.methodLink (z_mY 31).cls 43 (z_mY 20))) && (decide (z_hw 599 (Cond.instanceMethod (z_mY 20))) && (decide (z_hw 600 (Cond.selects (z_mY 20).cls (z_mY 20) (z_mY 20))) && (decide (z_hw 602 (Cond.methodLink (z_mY 31).cls 46 (z_mY 21))) && (decide (z_hw 603 (Cond.instanceMethod (z_mY 21))) && (decide (z_hw 604 (Cond.selects (z_mY 21).cls (z_mY 21) (z_mY 21))) && (decide (z_hw 606 (Cond.methodLink (z_mY 31).cls 49 (z_mY 22))) && (decide (z_hw 607 (Cond.instanceMethod (z_mY 22))) && (decide (z_hw 608 (Cond.selects (z_mY 22).cls (z_mY 22) (z_mY 22))) && (decide (z_hw 610 (Cond.methodLink (z_mY 31).cls 52 (z_mY 23))) && (decide (z_hw 611 (Cond.instanceMethod (z_mY 23))) && (decide (z_hw 612 (Cond.selects (z_mY 23).cls (z_mY 23) (z_mY 23))) && (decide (z_hw 614 (Cond.methodLink (z_mY 31).cls 55 (z_mY 33))) && (decide (z_hw 615 (Cond.static (z_mY 33))) && (decide (z_hw 623 (Cond.methodLink (z_mY 31).cls 67 (z_mY 32))) && (decide (z_hw 624 (Cond.static (z_mY 32))) && (decide (z_hw 594 (Cond.methodLink (z_mY 34).cls 71 (z_mY 31))) && (decide (z_hw 595 (Cond.instanceMethod (z_mY 31))) && (decide (z_hw 596 (Cond.selects (z_mY 31).cls (z_mY 31) (z_mY 31))) && (decide (z_hw 315 (Cond.fieldLink (z_mY 35).cls 75 "SlabMap$Act" "sort" "I")) && (decide (z_hw 576 (Cond.methodLink (z_mY 35).cls 80 (z_mY 36))) && (decide (z_hw 578 (Cond.instanceMethod (z_mY 36))) && (decide (z_hw 13 (Cond.selects (z_mY 36).cls (z_mY 36) (z_mY 36))) && (decide (z_hw 318 (Cond.fieldLink (z_mY 35).cls 84 "SlabMap$Act" "edge" "I")) && (decide (z_hw 626 (Cond.methodLink (z_mY 35).cls 87 (z_mY 37))) && (decide (z_hw 628 (Cond.instanceMethod (z_mY 37))) && (decide (z_hw 14 (Cond.selects (z_mY 37).cls (z_mY 37) (z_mY 37))) && (decide (z_hw 634 (Cond.methodLink (z_mY 35).cls 90 (z_mY 38))) && (decide (z_hw 636 (Cond.instanceMethod (z_mY 38))) && (decide (z_hw 15 (Cond.selects (z_mY 38).cls (z_mY 38) (z_mY 38))) && (decide (z_hw 320 (Cond.fieldLink (z_mY 36).cls 93 "SlabMap$Act" "x" "I")) && (decide (z_hw 322 (Cond.fieldLink (z_mY 36).cls 95 "SlabMap$Act" "y" "I")) && (decide (z_hw 581 (Cond.static (z_mY 166))) && (decide (z_hw 324 (Cond.fieldLink (z_mY 36).cls 100 "SlabMap$Act" "toX" "I")) && (decide (z_hw 326 (Cond.fieldLink (z_mY 36).cls 102 "SlabMap$Act" "toY" "I")) && (decide (z_hw 328 (Cond.fieldLink (z_mY 36).cls 104 "SlabMap$Act" "region" "I")) && (decide (z_hw 586 (Cond.methodLink (z_mY 36).cls 110 (z_mY 34))) && (decide (z_hw 587 (Cond.instanceMethod (z_mY 34))) && (decide (z_hw 588 (Cond.selects (z_mY 34).cls (z_mY 34) (z_mY 34))) && (decide (z_hw 630 (Cond.methodLink (z_mY 37).cls 114 (z_mY 24))) && (decide (z_hw 631 (Cond.instanceMethod (z_mY 24))) && (decide (z_hw 632 (Cond.selects (z_mY 24).cls (z_mY 24) (z_mY 24))) && (decide (z_hw 638 (Cond.methodLink (z_mY 38).cls 116 (z_mY 39))) && (decide (z_hw 639 (Cond.static (z_mY 39))) && (decide (z_hw 645 (Cond.methodLink (z_mY 40).cls 119 (z_mY 41))) && (decide (z_hw 647 (Cond.instanceMethod (z_mY 41))) && (decide (z_hw 16 (Cond.selects (z_mY 41).cls (z_mY 41) (z_mY 41))) && (decide (z_hw 649 (Cond.methodLink (z_mY 40).cls 122 (z_mY 42))) && (decide (z_hw 651 (Cond.instanceMethod (z_mY 42))) && (decide (z_hw 17 (Cond.selects (z_mY 42).cls (z_mY 42) (z_mY 42))) && (decide (z_hw 653 (Cond.methodLink (z_mY 40).cls 125 (z_mY 43))) && (decide (z_hw 655 (Cond.instanceMethod (z_mY 43))) && (decide (z_hw 18 (Cond.selects (z_mY 43).cls (z_mY 43) (z_mY 43))) && (decide (z_hw 675 (Cond.methodLink (z_mY 45).cls 128 (z_mY 44))) && (decide (z_hw 676 (Cond.instanceMethod (z_mY 44))) && (decide (z_hw 677 (Cond.selects (z_mY 44).cls (z_mY 44) (z_mY 44))) && (decide (z_hw 132 (Cond.initialized "java/lang/Long")) && (decide (z_hw 679 (Cond.methodLink (z_mY 45).cls 132 (z_mY 295))) && (decide (z_hw 680 (Cond.static (z_mY 295))) && (decide (z_hw 349 (Cond.methodLink (z_mY 49).cls 3 objectInit)) && (decide (z_hw 350 (Cond.fieldLink (z_mY 49).cls 11 "SlabMap$Ends" "edge" "[I")) && (decide (z_hw 351 (Cond.fieldLink (z_mY 49).cls 15 "SlabMap$Ends" "firstLonger" "[I")) && (decide (z_hw 352 (Cond.fieldLink (z_mY 49).cls 18 "SlabMap$Ends" "nextAside" "[I")) && (decide (z_hw 353 (Cond.fieldLink (z_mY 49).cls 21 "SlabMap$Ends" "seen" "[I")) && (decide (z_hw 354 (Cond.fieldLink (z_mY 50).cls 24 "SlabMap$Ends" "count" "I")) && (decide (z_hw 127 (Cond.initialized "SlabMap$Ends")) && (decide (z_hw 975 (Cond.methodLink (z_mY 50).cls 28 (z_mY 53))) && (decide (z_hw 977 (Cond.instanceMethod (z_mY 53))) && (decide (z_hw 31 (Cond.selects (z_mY 53).cls (z_mY 53) (z_mY 53))) && (decide (z_hw 979 (Cond.methodLink (z_mY 50).cls 32 (z_mY 51))) && (decide (z_hw 981 (Cond.instanceMethod (z_mY 51))) && (decide (z_hw 32 (Cond.selects (z_mY 51).cls (z_mY 51) (z_mY 51))) && (decide (z_hw 244 (Cond.fieldLink (z_mY 51).cls 36 "SlabMap$Slabs" "count" "I")) && (decide (z_hw 123 (Cond.initialized "SlabMap$Slabs")) && (decide (z_hw 983 (Cond.methodLink (z_mY 51).cls 39 (z_mY 91))) && (decide (z_hw 747 (Cond.instanceMethod (z_mY 91))) && (decide (z_hw 748 (Cond.selects (z_mY 91).cls (z_mY 91) (z_mY 91))) && (decide (z_hw 984 (Cond.methodLink (z_mY 51).cls 43 (z_mY 92))) && (decide (z_hw 755 (Cond.instanceMethod (z_mY 92))) && (decide (z_hw 756 (Cond.selects (z_mY 92).cls (z_mY 92) (z_mY 92))) && (decide (z_hw 985 (Cond.methodLink (z_mY 51).cls 46 (z_mY 52))) && (decide (z_hw 987 (Cond.instanceMethod (z_mY 52))) && (decide (z_hw 33 (Cond.selects (z_mY 52).cls (z_mY 52) (z_mY 52))) && (decide (z_hw 283 (Cond.methodLink (z_mY 54).cls 3 objectInit)) && (decide (z_hw 286 (Cond.fieldLink (z_mY 54).cls 11 "SlabMap$History" "rows" "[I")) && (decide (z_hw 284 (Cond.fieldLink (z_mY 55).cls 17 "SlabMap$History" "count" "I")) && (decide (z_hw 227 (Cond.fieldLink (z_mY 56).cls 21 "SlabMap$Edges" "row" "[I")) && (decide (z_hw 287 (Cond.fieldLink (z_mY 56).cls 24 "SlabMap$History" "next" "I")) && (decide (z_hw 874 (Cond.methodLink (z_mY 56).cls 27 arraycopyName)) && (decide (z_hw 771 (Cond.methodLink (z_mY 57).cls 39 (z_mY 18))) && (decide (z_hw 772 (Cond.instanceMethod (z_mY 18))) && (decide (z_hw 773 (Cond.selects (z_mY 18).cls (z_mY 18) (z_mY 18))) && (decide (z_hw 124 (Cond.initialized "SlabMap$History")) && (decide (z_hw 939 (Cond.methodLink (z_mY 58).cls 43 (z_mY 57))) && (decide (z_hw 768 (Cond.instanceMethod (z_mY 57))) && (decide (z_hw 769 (Cond.selects (z_mY 57).cls (z_mY 57) (z_mY 57))) && (decide (z_hw 300 (Cond.methodLink (z_mY 59).cls 3 objectInit)) && (decide (z_hw 301 (Cond.fieldLink (z_mY 59).cls 11 "SlabMap$Log" "rows" "[I")) && (decide (z_hw 302 (Cond.fieldLink (z_mY 60).cls 15 "SlabMap$Log" "total" "I")) && (decide (z_hw 1121 (Cond.methodLink (z_mY 61).cls 19 arraycopyName)) && (decide (z_hw 125 (Cond.initialized "SlabMap$Log")) && (decide (z_hw 953 (Cond.methodLink (z_mY 65).cls 34 (z_mY 64))) && (decide (z_hw 954 (Cond.instanceMethod (z_mY 64))) && (decide (z_hw 955 (Cond.selects (z_mY 64).cls (z_mY 64) (z_mY 64))) && (decide (z_hw 958 (Cond.constant (z_mY 65).cls 38 (-1000000))) && (decide (z_hw 169 (Cond.methodLink (z_mY 66).cls 3 objectInit)) && (decide (z_hw 189 (Cond.fieldLink (z_mY 66).cls 13 "SlabMap$Reader" "edges" "[I")) && (decide (z_hw 193 (Cond.fieldLink (z_mY 66).cls 18 "SlabMap$Reader" "names" "[I")) && (decide (z_hw 172 (Cond.classLink (z_mY 66).cls 21 "SlabMap$Steps")) && (decide (z_hw 173 (Cond.instantiable "SlabMap$Steps" 2)) && (decide (z_hw 120 (Cond.initialized "SlabMap$Steps")) && (decide (z_hw 175 (Cond.instanceMethod (z_mY 113))) && (decide (z_hw 195 (Cond.fieldLink (z_mY 66).cls 24 "SlabMap$Reader" "steps" "LSlabMap$Steps;")) && (decide (z_hw 197 (Cond.fieldLink (z_mY 66).cls 28 "SlabMap$Reader" "tape" "LSlabMap$Tape;")) && (decide (z_hw 119 (Cond.initialized "SlabMap$Reader")) && (decide (z_hw 461 (Cond.methodLink (z_mY 67).cls 32 (z_mY 69))) && (decide (z_hw 463 (Cond.instanceMethod (z_mY 69))) && (decide (z_hw 0 (Cond.selects (z_mY 69).cls (z_mY 69) (z_mY 69))) && (decide (z_hw 191 (Cond.fieldLink (z_mY 67).cls 35 "SlabMap$Reader" "edgeCount" "I")) && (decide (z_hw 465 (Cond.methodLink (z_mY 67).cls 39 (z_mY 298))) && (decide (z_hw 155 (Cond.fieldLink (z_mY 67).cls 45 "SlabMap$Tape" "length" "I")) && (decide (z_hw 466 (Cond.methodLink (z_mY 67).cls 50 (z_mY 76))) && (decide (z_hw 468 (Cond.instanceMethod (z_mY 76))) && (decide (z_hw 1 (Cond.selects (z_mY 76).cls (z_mY 76) (z_mY 76))) && (decide (z_hw 511 (Cond.methodLink (z_mY 67).cls 53 (z_mY 75))) && (decide (z_hw 513 (Cond.instanceMethod (z_mY 75))) && (decide (z_hw 10 (Cond.selects (z_mY 75).cls (z_mY 75) (z_mY 75))) && (decide (z_hw 199 (Cond.fieldLink (z_mY 67).cls 57 "SlabMap$Reader" "fault" "I")) && (decide (z_hw 182 (Cond.fieldLink (z_mY 68).cls 60 "SlabMap$Steps" "count" "I")) && (decide (z_hw 519 (Cond.methodLink (z_mY 68).cls 63 (z_mY 78))) && (decide (z_hw 521 (Cond.instanceMethod (z_mY 78))) && (true))))))))))))))))))))))))))))))))))))))))))))))))))))))))))))))))))))))))))))))))))))))))))))))))))))))))))))))))))))))))))))))))))))))))))))))))))))))))))))))))))))))))))))))))))))))))))))))))))))))))) = true := by decide +kernel
set_option maxRecDepth 100000 in
theorem zK_3_0 : z_hk 1815 292 ∧ z_hk 1129 165 ∧ z_hk 1819 293 ∧ True := ⟨rfl, rfl, rfl, trivial⟩
theorem zcl_164 : z_cls[11]? = some ((z_mY 164).cls, TX11, 19) := rfl
theorem zc_292 : ∀ m, z_ce m 292 0 := fun _ => z_hcE zK_3_0.1 (z_b1 zB_3_0)
theorem zy_292 : plainName (z_mY 292).cls = true ∧ (292 : Nat) ≠ 128 ∧ (292 : Nat) ≠ 299 := ⟨(z_b1 (z_b2 zB_3_0)), by decide, by decide⟩
theorem zcl_292 : z_cls[12]? = some ((z_mY 292).cls, TX12, 39) := rfl
theorem zc_165 : ∀ m, z_ce m 165 1 := fun _ => z_hcE zK_3_0.2.1 (z_b1 (z_b2 (z_b2 zB_3_0)))
theorem zy_165 : plainName (z_mY 165).cls = true ∧ (165 : Nat) ≠ 128 ∧ (165 : Nat) ≠ 299 := ⟨(z_b1 (z_b2 (z_b2 (z_b2 zB_3_0)))), by decide, by decide⟩
theorem zcl_165 : z_cls[11]? = some ((z_mY 165).cls, TX11, 19) := rfl
theorem zc_293 : ∀ m, z_ce m 293 1 := fun _ => z_hcE zK_3_0.2.2.1 (z_b1 (z_b2 (z_b2 (z_b2 (z_b2 zB_3_0)))))
theorem zy_293 : plainName (z_mY 293).cls = true ∧ (293 : Nat) ≠ 128 ∧ (293 : Nat) ≠ 299 := ⟨(z_b1 (z_b2 (z_b2 (z_b2 (z_b2 (z_b2 zB_3_0)))))), by decide, by decide⟩
theorem zcl_293 : z_cls[12]? = some ((z_mY 293).cls, TX12, 39) := rfl
theorem zw_313 : Cond.methodLink (z_mY 0).cls 3 objectInit ∈ z_TB := z_inH (z_b1 (z_b2 (z_b2 (z_b2 (z_b2 (z_b2 (z_b2 zB_3_0)))))))
theorem zw_145 : Cond.instanceMethod objectInit ∈ z_TB := z_inH (z_b1 (z_b2 (z_b2 (z_b2 (z_b2 (z_b2 (z_b2 (z_b2 zB_3_0))))))))
def zB_3_8 := z_b2 (z_b2 (z_b2 (z_b2 (z_b2 (z_b2 (z_b2 (z_b2 zB_3_0)))))))
theorem zw_146 : Cond.code objectInit ⟨#[0xb1]⟩ 1 none ∈ z_TB := z_inH (z_b1 zB_3_8)
theorem zw_314 : Cond.fieldLink (z_mY 1).cls 9 "SlabMap$Act" "sort" "I" ∈ z_TB := z_inH (z_b1 (z_b2 zB_3_8))
theorem zw_319 : Cond.fieldLink (z_mY 1).cls 15 "SlabMap$Act" "x" "I" ∈ z_TB := z_inH (z_b1 (z_b2 (z_b2 zB_3_8)))
theorem zw_321 : Cond.fieldLink (z_mY 1).cls 18 "SlabMap$Act" "y" "I" ∈ z_TB := z_inH (z_b1 (z_b2 (z_b2 (z_b2 zB_3_8))))
theorem zw_323 : Cond.fieldLink (z_mY 1).cls 21 "SlabMap$Act" "toX" "I" ∈ z_TB := z_inH (z_b1 (z_b2 (z_b2 (z_b2 (z_b2 zB_3_8)))))
theorem zw_325 : Cond.fieldLink (z_mY 1).cls 24 "SlabMap$Act" "toY" "I" ∈ z_TB := z_inH (z_b1 (z_b2 (z_b2 (z_b2 (z_b2 (z_b2 zB_3_8))))))
theorem zw_327 : Cond.fieldLink (z_mY 1).cls 27 "SlabMap$Act" "region" "I" ∈ z_TB := z_inH (z_b1 (z_b2 (z_b2 (z_b2 (z_b2 (z_b2 (z_b2 zB_3_8)))))))
theorem zw_317 : Cond.fieldLink (z_mY 2).cls 30 "SlabMap$Act" "edge" "I" ∈ z_TB := z_inH (z_b1 (z_b2 (z_b2 (z_b2 (z_b2 (z_b2 (z_b2 (z_b2 zB_3_8))))))))
def zB_3_16 := z_b2 (z_b2 (z_b2 (z_b2 (z_b2 (z_b2 (z_b2 (z_b2 zB_3_8)))))))
theorem zw_179 : Cond.fieldLink (z_mY 5).cls 33 "SlabMap$Steps" "numbers" "[I" ∈ z_TB := z_inH (z_b1 zB_3_16)
theorem zw_126 : Cond.initialized "SlabMap$Act" ∈ z_TB := z_inH (z_b1 (z_b2 zB_3_16))
theorem zw_1077 : Cond.methodLink (z_mY 5).cls 39 (z_mY 6) ∈ z_TB := z_inH (z_b1 (z_b2 (z_b2 zB_3_16)))
theorem zw_552 : Cond.instanceMethod (z_mY 6) ∈ z_TB := z_inH (z_b1 (z_b2 (z_b2 (z_b2 zB_3_16))))
theorem zw_553 : Cond.selects (z_mY 6).cls (z_mY 6) (z_mY 6) ∈ z_TB := z_inH (z_b1 (z_b2 (z_b2 (z_b2 (z_b2 zB_3_16)))))
theorem zw_556 : Cond.methodLink (z_mY 6).cls 46 (z_mY 1) ∈ z_TB := z_inH (z_b1 (z_b2 (z_b2 (z_b2 (z_b2 (z_b2 zB_3_16))))))
theorem zw_557 : Cond.instanceMethod (z_mY 1) ∈ z_TB := z_inH (z_b1 (z_b2 (z_b2 (z_b2 (z_b2 (z_b2 (z_b2 zB_3_16)))))))
theorem zw_558 : Cond.selects (z_mY 1).cls (z_mY 1) (z_mY 1) ∈ z_TB := z_inH (z_b1 (z_b2 (z_b2 (z_b2 (z_b2 (z_b2 (z_b2 (z_b2 zB_3_16))))))))
def zB_3_24 := z_b2 (z_b2 (z_b2 (z_b2 (z_b2 (z_b2 (z_b2 (z_b2 zB_3_16)))))))
theorem zw_560 : Cond.methodLink (z_mY 6).cls 50 (z_mY 2) ∈ z_TB := z_inH (z_b1 zB_3_24)
theorem zw_561 : Cond.instanceMethod (z_mY 2) ∈ z_TB := z_inH (z_b1 (z_b2 zB_3_24))
theorem zw_562 : Cond.selects (z_mY 2).cls (z_mY 2) (z_mY 2) ∈ z_TB := z_inH (z_b1 (z_b2 (z_b2 zB_3_24)))
theorem zw_564 : Cond.methodLink (z_mY 6).cls 54 (z_mY 3) ∈ z_TB := z_inH (z_b1 (z_b2 (z_b2 (z_b2 zB_3_24))))
theorem zw_565 : Cond.instanceMethod (z_mY 3) ∈ z_TB := z_inH (z_b1 (z_b2 (z_b2 (z_b2 (z_b2 zB_3_24)))))
theorem zw_566 : Cond.selects (z_mY 3).cls (z_mY 3) (z_mY 3) ∈ z_TB := z_inH (z_b1 (z_b2 (z_b2 (z_b2 (z_b2 (z_b2 zB_3_24))))))
theorem zw_568 : Cond.methodLink (z_mY 6).cls 58 (z_mY 4) ∈ z_TB := z_inH (z_b1 (z_b2 (z_b2 (z_b2 (z_b2 (z_b2 (z_b2 zB_3_24)))))))
theorem zw_569 : Cond.instanceMethod (z_mY 4) ∈ z_TB := z_inH (z_b1 (z_b2 (z_b2 (z_b2 (z_b2 (z_b2 (z_b2 (z_b2 zB_3_24))))))))
def zB_3_32 := z_b2 (z_b2 (z_b2 (z_b2 (z_b2 (z_b2 (z_b2 (z_b2 zB_3_24)))))))
theorem zw_570 : Cond.selects (z_mY 4).cls (z_mY 4) (z_mY 4) ∈ z_TB := z_inH (z_b1 zB_3_32)
theorem zw_371 : Cond.methodLink (z_mY 8).cls 3 objectInit ∈ z_TB := z_inH (z_b1 (z_b2 zB_3_32))
theorem zw_163 : Cond.arrayClass .int ∈ z_TB := z_inH (z_b1 (z_b2 (z_b2 zB_3_32)))
theorem zw_374 : Cond.fieldLink (z_mY 8).cls 9 "SlabMap$Colours" "colour" "[I" ∈ z_TB := z_inH (z_b1 (z_b2 (z_b2 (z_b2 zB_3_32))))
theorem zw_372 : Cond.fieldLink (z_mY 9).cls 15 "SlabMap$Colours" "many" "I" ∈ z_TB := z_inH (z_b1 (z_b2 (z_b2 (z_b2 (z_b2 zB_3_32)))))
theorem zw_128 : Cond.initialized "SlabMap$Colours" ∈ z_TB := z_inH (z_b1 (z_b2 (z_b2 (z_b2 (z_b2 (z_b2 zB_3_32))))))
theorem zw_845 : Cond.methodLink (z_mY 9).cls 19 (z_mY 11) ∈ z_TB := z_inH (z_b1 (z_b2 (z_b2 (z_b2 (z_b2 (z_b2 (z_b2 zB_3_32)))))))
theorem zw_846 : Cond.static (z_mY 11) ∈ z_TB := z_inH (z_b1 (z_b2 (z_b2 (z_b2 (z_b2 (z_b2 (z_b2 (z_b2 zB_3_32))))))))
def zB_3_40 := z_b2 (z_b2 (z_b2 (z_b2 (z_b2 (z_b2 (z_b2 (z_b2 zB_3_32)))))))
theorem zw_117 : Cond.initialized "SlabMap" ∈ z_TB := z_inH (z_b1 zB_3_40)
theorem zw_584 : Cond.static (z_mY 167) ∈ z_TB := z_inH (z_b1 (z_b2 zB_3_40))
theorem zw_848 : Cond.methodLink (z_mY 11).cls 27 (z_mY 12) ∈ z_TB := z_inH (z_b1 (z_b2 (z_b2 zB_3_40)))
theorem zw_849 : Cond.static (z_mY 12) ∈ z_TB := z_inH (z_b1 (z_b2 (z_b2 (z_b2 zB_3_40))))
theorem zw_131 : Cond.initialized "java/lang/Math" ∈ z_TB := z_inH (z_b1 (z_b2 (z_b2 (z_b2 (z_b2 zB_3_40)))))
theorem zw_908 : Cond.methodLink (z_mY 13).cls 1 objectInit ∈ z_TB := z_inH (z_b1 (z_b2 (z_b2 (z_b2 (z_b2 (z_b2 zB_3_40))))))
theorem zw_909 : Cond.fieldLink (z_mY 13).cls 7 "SlabMap$Draws" "x" "J" ∈ z_TB := z_inH (z_b1 (z_b2 (z_b2 (z_b2 (z_b2 (z_b2 (z_b2 zB_3_40)))))))
theorem zw_921 : Cond.constantLong (z_mY 14).cls 13 (6364136223846793005) ∈ z_TB := z_inH (z_b1 (z_b2 (z_b2 (z_b2 (z_b2 (z_b2 (z_b2 (z_b2 zB_3_40))))))))
def zB_3_48 := z_b2 (z_b2 (z_b2 (z_b2 (z_b2 (z_b2 (z_b2 (z_b2 zB_3_40)))))))
theorem zw_922 : Cond.constantLong (z_mY 14).cls 15 (1442695040888963407) ∈ z_TB := z_inH (z_b1 zB_3_48)
theorem zw_222 : Cond.methodLink (z_mY 15).cls 3 objectInit ∈ z_TB := z_inH (z_b1 (z_b2 zB_3_48))
theorem zw_226 : Cond.fieldLink (z_mY 15).cls 11 "SlabMap$Edges" "row" "[I" ∈ z_TB := z_inH (z_b1 (z_b2 (z_b2 zB_3_48)))
theorem zw_122 : Cond.initialized "java/util/Arrays" ∈ z_TB := z_inH (z_b1 (z_b2 (z_b2 (z_b2 zB_3_48))))
theorem zw_223 : Cond.methodLink (z_mY 15).cls 15 (z_mY 298) ∈ z_TB := z_inH (z_b1 (z_b2 (z_b2 (z_b2 (z_b2 zB_3_48)))))
theorem zw_224 : Cond.static (z_mY 298) ∈ z_TB := z_inH (z_b1 (z_b2 (z_b2 (z_b2 (z_b2 (z_b2 zB_3_48))))))
theorem zw_228 : Cond.fieldLink (z_mY 16).cls 21 "SlabMap$Edges" "count" "I" ∈ z_TB := z_inH (z_b1 (z_b2 (z_b2 (z_b2 (z_b2 (z_b2 (z_b2 zB_3_48)))))))
theorem zw_775 : Cond.methodLink (z_mY 17).cls 25 arraycopyName ∈ z_TB := z_inH (z_b1 (z_b2 (z_b2 (z_b2 (z_b2 (z_b2 (z_b2 (z_b2 zB_3_48))))))))
def zB_3_56 := z_b2 (z_b2 (z_b2 (z_b2 (z_b2 (z_b2 (z_b2 (z_b2 zB_3_48)))))))
theorem zw_545 : Cond.native arraycopyName ∈ z_TB := z_inH (z_b1 zB_3_56)
theorem zw_544 : Cond.static arraycopyName ∈ z_TB := z_inH (z_b1 (z_b2 zB_3_56))
theorem zw_130 : Cond.initialized "java/lang/System" ∈ z_TB := z_inH (z_b1 (z_b2 (z_b2 zB_3_56)))
theorem zw_121 : Cond.initialized "SlabMap$Edges" ∈ z_TB := z_inH (z_b1 (z_b2 (z_b2 (z_b2 zB_3_56))))
theorem zw_590 : Cond.methodLink (z_mY 18).cls 31 (z_mY 19) ∈ z_TB := z_inH (z_b1 (z_b2 (z_b2 (z_b2 (z_b2 zB_3_56)))))
theorem zw_591 : Cond.instanceMethod (z_mY 19) ∈ z_TB := z_inH (z_b1 (z_b2 (z_b2 (z_b2 (z_b2 (z_b2 zB_3_56))))))
theorem zw_592 : Cond.selects (z_mY 19).cls (z_mY 19) (z_mY 19) ∈ z_TB := z_inH (z_b1 (z_b2 (z_b2 (z_b2 (z_b2 (z_b2 (z_b2 zB_3_56)))))))
theorem zw_736 : Cond.methodLink (z_mY 27).cls 35 (z_mY 26) ∈ z_TB := z_inH (z_b1 (z_b2 (z_b2 (z_b2 (z_b2 (z_b2 (z_b2 (z_b2 zB_3_56))))))))
def zB_3_64 := z_b2 (z_b2 (z_b2 (z_b2 (z_b2 (z_b2 (z_b2 (z_b2 zB_3_56)))))))
theorem zw_737 : Cond.instanceMethod (z_mY 26) ∈ z_TB := z_inH (z_b1 zB_3_64)
theorem zw_738 : Cond.selects (z_mY 26).cls (z_mY 26) (z_mY 26) ∈ z_TB := z_inH (z_b1 (z_b2 zB_3_64))
theorem zw_740 : Cond.methodLink (z_mY 27).cls 39 (z_mY 25) ∈ z_TB := z_inH (z_b1 (z_b2 (z_b2 zB_3_64)))
theorem zw_741 : Cond.instanceMethod (z_mY 25) ∈ z_TB := z_inH (z_b1 (z_b2 (z_b2 (z_b2 zB_3_64))))
theorem zw_742 : Cond.selects (z_mY 25).cls (z_mY 25) (z_mY 25) ∈ z_TB := z_inH (z_b1 (z_b2 (z_b2 (z_b2 (z_b2 zB_3_64)))))
theorem zw_598 : Cond.methodLink (z_mY 31).cls 43 (z_mY 20) ∈ z_TB := z_inH (z_b1 (z_b2 (z_b2 (z_b2 (z_b2 (z_b2 zB_3_64))))))
theorem zw_599 : Cond.instanceMethod (z_mY 20) ∈ z_TB := z_inH (z_b1 (z_b2 (z_b2 (z_b2 (z_b2 (z_b2 (z_b2 zB_3_64)))))))
theorem zw_600 : Cond.selects (z_mY 20).cls (z_mY 20) (z_mY 20) ∈ z_TB := z_inH (z_b1 (z_b2 (z_b2 (z_b2 (z_b2 (z_b2 (z_b2 (z_b2 zB_3_64))))))))
def zB_3_72 := z_b2 (z_b2 (z_b2 (z_b2 (z_b2 (z_b2 (z_b2 (z_b2 zB_3_64)))))))
theorem zw_602 : Cond.methodLink (z_mY 31).cls 46 (z_mY 21) ∈ z_TB := z_inH (z_b1 zB_3_72)
theorem zw_603 : Cond.instanceMethod (z_mY 21) ∈ z_TB := z_inH (z_b1 (z_b2 zB_3_72))
theorem zw_604 : Cond.selects (z_mY 21).cls (z_mY 21) (z_mY 21) ∈ z_TB := z_inH (z_b1 (z_b2 (z_b2 zB_3_72)))
theorem zw_606 : Cond.methodLink (z_mY 31).cls 49 (z_mY 22) ∈ z_TB := z_inH (z_b1 (z_b2 (z_b2 (z_b2 zB_3_72))))
theorem zw_607 : Cond.instanceMethod (z_mY 22) ∈ z_TB := z_inH (z_b1 (z_b2 (z_b2 (z_b2 (z_b2 zB_3_72)))))
theorem zw_608 : Cond.selects (z_mY 22).cls (z_mY 22) (z_mY 22) ∈ z_TB := z_inH (z_b1 (z_b2 (z_b2 (z_b2 (z_b2 (z_b2 zB_3_72))))))
theorem zw_610 : Cond.methodLink (z_mY 31).cls 52 (z_mY 23) ∈ z_TB := z_inH (z_b1 (z_b2 (z_b2 (z_b2 (z_b2 (z_b2 (z_b2 zB_3_72)))))))
theorem zw_611 : Cond.instanceMethod (z_mY 23) ∈ z_TB := z_inH (z_b1 (z_b2 (z_b2 (z_b2 (z_b2 (z_b2 (z_b2 (z_b2 zB_3_72))))))))
def zB_3_80 := z_b2 (z_b2 (z_b2 (z_b2 (z_b2 (z_b2 (z_b2 (z_b2 zB_3_72)))))))
theorem zw_612 : Cond.selects (z_mY 23).cls (z_mY 23) (z_mY 23) ∈ z_TB := z_inH (z_b1 zB_3_80)
theorem zw_614 : Cond.methodLink (z_mY 31).cls 55 (z_mY 33) ∈ z_TB := z_inH (z_b1 (z_b2 zB_3_80))
theorem zw_615 : Cond.static (z_mY 33) ∈ z_TB := z_inH (z_b1 (z_b2 (z_b2 zB_3_80)))
theorem zw_623 : Cond.methodLink (z_mY 31).cls 67 (z_mY 32) ∈ z_TB := z_inH (z_b1 (z_b2 (z_b2 (z_b2 zB_3_80))))
theorem zw_624 : Cond.static (z_mY 32) ∈ z_TB := z_inH (z_b1 (z_b2 (z_b2 (z_b2 (z_b2 zB_3_80)))))
theorem zw_594 : Cond.methodLink (z_mY 34).cls 71 (z_mY 31) ∈ z_TB := z_inH (z_b1 (z_b2 (z_b2 (z_b2 (z_b2 (z_b2 zB_3_80))))))
theorem zw_595 : Cond.instanceMethod (z_mY 31) ∈ z_TB := z_inH (z_b1 (z_b2 (z_b2 (z_b2 (z_b2 (z_b2 (z_b2 zB_3_80)))))))
theorem zw_596 : Cond.selects (z_mY 31).cls (z_mY 31) (z_mY 31) ∈ z_TB := z_inH (z_b1 (z_b2 (z_b2 (z_b2 (z_b2 (z_b2 (z_b2 (z_b2 zB_3_80))))))))
def zB_3_88 := z_b2 (z_b2 (z_b2 (z_b2 (z_b2 (z_b2 (z_b2 (z_b2 zB_3_80)))))))
theorem zw_315 : Cond.fieldLink (z_mY 35).cls 75 "SlabMap$Act" "sort" "I" ∈ z_TB := z_inH (z_b1 zB_3_88)
theorem zw_576 : Cond.methodLink (z_mY 35).cls 80 (z_mY 36) ∈ z_TB := z_inH (z_b1 (z_b2 zB_3_88))
theorem zw_578 : Cond.instanceMethod (z_mY 36) ∈ z_TB := z_inH (z_b1 (z_b2 (z_b2 zB_3_88)))
theorem zw_13 : Cond.selects (z_mY 36).cls (z_mY 36) (z_mY 36) ∈ z_TB := z_inH (z_b1 (z_b2 (z_b2 (z_b2 zB_3_88))))
theorem zw_318 : Cond.fieldLink (z_mY 35).cls 84 "SlabMap$Act" "edge" "I" ∈ z_TB := z_inH (z_b1 (z_b2 (z_b2 (z_b2 (z_b2 zB_3_88)))))
theorem zw_626 : Cond.methodLink (z_mY 35).cls 87 (z_mY 37) ∈ z_TB := z_inH (z_b1 (z_b2 (z_b2 (z_b2 (z_b2 (z_b2 zB_3_88))))))
theorem zw_628 : Cond.instanceMethod (z_mY 37) ∈ z_TB := z_inH (z_b1 (z_b2 (z_b2 (z_b2 (z_b2 (z_b2 (z_b2 zB_3_88)))))))
theorem zw_14 : Cond.selects (z_mY 37).cls (z_mY 37) (z_mY 37) ∈ z_TB := z_inH (z_b1 (z_b2 (z_b2 (z_b2 (z_b2 (z_b2 (z_b2 (z_b2 zB_3_88))))))))
def zB_3_96 := z_b2 (z_b2 (z_b2 (z_b2 (z_b2 (z_b2 (z_b2 (z_b2 zB_3_88)))))))
theorem zw_634 : Cond.methodLink (z_mY 35).cls 90 (z_mY 38) ∈ z_TB := z_inH (z_b1 zB_3_96)
theorem zw_636 : Cond.instanceMethod (z_mY 38) ∈ z_TB := z_inH (z_b1 (z_b2 zB_3_96))
theorem zw_15 : Cond.selects (z_mY 38).cls (z_mY 38) (z_mY 38) ∈ z_TB := z_inH (z_b1 (z_b2 (z_b2 zB_3_96)))
theorem zw_320 : Cond.fieldLink (z_mY 36).cls 93 "SlabMap$Act" "x" "I" ∈ z_TB := z_inH (z_b1 (z_b2 (z_b2 (z_b2 zB_3_96))))
theorem zw_322 : Cond.fieldLink (z_mY 36).cls 95 "SlabMap$Act" "y" "I" ∈ z_TB := z_inH (z_b1 (z_b2 (z_b2 (z_b2 (z_b2 zB_3_96)))))
theorem zw_581 : Cond.static (z_mY 166) ∈ z_TB := z_inH (z_b1 (z_b2 (z_b2 (z_b2 (z_b2 (z_b2 zB_3_96))))))
theorem zw_324 : Cond.fieldLink (z_mY 36).cls 100 "SlabMap$Act" "toX" "I" ∈ z_TB := z_inH (z_b1 (z_b2 (z_b2 (z_b2 (z_b2 (z_b2 (z_b2 zB_3_96)))))))
theorem zw_326 : Cond.fieldLink (z_mY 36).cls 102 "SlabMap$Act" "toY" "I" ∈ z_TB := z_inH (z_b1 (z_b2 (z_b2 (z_b2 (z_b2 (z_b2 (z_b2 (z_b2 zB_3_96))))))))
def zB_3_104 := z_b2 (z_b2 (z_b2 (z_b2 (z_b2 (z_b2 (z_b2 (z_b2 zB_3_96)))))))
theorem zw_328 : Cond.fieldLink (z_mY 36).cls 104 "SlabMap$Act" "region" "I" ∈ z_TB := z_inH (z_b1 zB_3_104)
theorem zw_586 : Cond.methodLink (z_mY 36).cls 110 (z_mY 34) ∈ z_TB := z_inH (z_b1 (z_b2 zB_3_104))
theorem zw_587 : Cond.instanceMethod (z_mY 34) ∈ z_TB := z_inH (z_b1 (z_b2 (z_b2 zB_3_104)))
theorem zw_588 : Cond.selects (z_mY 34).cls (z_mY 34) (z_mY 34) ∈ z_TB := z_inH (z_b1 (z_b2 (z_b2 (z_b2 zB_3_104))))
theorem zw_630 : Cond.methodLink (z_mY 37).cls 114 (z_mY 24) ∈ z_TB := z_inH (z_b1 (z_b2 (z_b2 (z_b2 (z_b2 zB_3_104)))))
theorem zw_631 : Cond.instanceMethod (z_mY 24) ∈ z_TB := z_inH (z_b1 (z_b2 (z_b2 (z_b2 (z_b2 (z_b2 zB_3_104))))))
theorem zw_632 : Cond.selects (z_mY 24).cls (z_mY 24) (z_mY 24) ∈ z_TB := z_inH (z_b1 (z_b2 (z_b2 (z_b2 (z_b2 (z_b2 (z_b2 zB_3_104)))))))
theorem zw_638 : Cond.methodLink (z_mY 38).cls 116 (z_mY 39) ∈ z_TB := z_inH (z_b1 (z_b2 (z_b2 (z_b2 (z_b2 (z_b2 (z_b2 (z_b2 zB_3_104))))))))
def zB_3_112 := z_b2 (z_b2 (z_b2 (z_b2 (z_b2 (z_b2 (z_b2 (z_b2 zB_3_104)))))))
theorem zw_639 : Cond.static (z_mY 39) ∈ z_TB := z_inH (z_b1 zB_3_112)
theorem zw_645 : Cond.methodLink (z_mY 40).cls 119 (z_mY 41) ∈ z_TB := z_inH (z_b1 (z_b2 zB_3_112))
theorem zw_647 : Cond.instanceMethod (z_mY 41) ∈ z_TB := z_inH (z_b1 (z_b2 (z_b2 zB_3_112)))
theorem zw_16 : Cond.selects (z_mY 41).cls (z_mY 41) (z_mY 41) ∈ z_TB := z_inH (z_b1 (z_b2 (z_b2 (z_b2 zB_3_112))))
theorem zw_649 : Cond.methodLink (z_mY 40).cls 122 (z_mY 42) ∈ z_TB := z_inH (z_b1 (z_b2 (z_b2 (z_b2 (z_b2 zB_3_112)))))
theorem zw_651 : Cond.instanceMethod (z_mY 42) ∈ z_TB := z_inH (z_b1 (z_b2 (z_b2 (z_b2 (z_b2 (z_b2 zB_3_112))))))
theorem zw_17 : Cond.selects (z_mY 42).cls (z_mY 42) (z_mY 42) ∈ z_TB := z_inH (z_b1 (z_b2 (z_b2 (z_b2 (z_b2 (z_b2 (z_b2 zB_3_112)))))))
theorem zw_653 : Cond.methodLink (z_mY 40).cls 125 (z_mY 43) ∈ z_TB := z_inH (z_b1 (z_b2 (z_b2 (z_b2 (z_b2 (z_b2 (z_b2 (z_b2 zB_3_112))))))))
def zB_3_120 := z_b2 (z_b2 (z_b2 (z_b2 (z_b2 (z_b2 (z_b2 (z_b2 zB_3_112)))))))
theorem zw_655 : Cond.instanceMethod (z_mY 43) ∈ z_TB := z_inH (z_b1 zB_3_120)
theorem zw_18 : Cond.selects (z_mY 43).cls (z_mY 43) (z_mY 43) ∈ z_TB := z_inH (z_b1 (z_b2 zB_3_120))
theorem zw_675 : Cond.methodLink (z_mY 45).cls 128 (z_mY 44) ∈ z_TB := z_inH (z_b1 (z_b2 (z_b2 zB_3_120)))
theorem zw_676 : Cond.instanceMethod (z_mY 44) ∈ z_TB := z_inH (z_b1 (z_b2 (z_b2 (z_b2 zB_3_120))))
theorem zw_677 : Cond.selects (z_mY 44).cls (z_mY 44) (z_mY 44) ∈ z_TB := z_inH (z_b1 (z_b2 (z_b2 (z_b2 (z_b2 zB_3_120)))))
theorem zw_132 : Cond.initialized "java/lang/Long" ∈ z_TB := z_inH (z_b1 (z_b2 (z_b2 (z_b2 (z_b2 (z_b2 zB_3_120))))))
theorem zw_679 : Cond.methodLink (z_mY 45).cls 132 (z_mY 295) ∈ z_TB := z_inH (z_b1 (z_b2 (z_b2 (z_b2 (z_b2 (z_b2 (z_b2 zB_3_120)))))))
theorem zw_680 : Cond.static (z_mY 295) ∈ z_TB := z_inH (z_b1 (z_b2 (z_b2 (z_b2 (z_b2 (z_b2 (z_b2 (z_b2 zB_3_120))))))))
def zB_3_128 := z_b2 (z_b2 (z_b2 (z_b2 (z_b2 (z_b2 (z_b2 (z_b2 zB_3_120)))))))
theorem zw_349 : Cond.methodLink (z_mY 49).cls 3 objectInit ∈ z_TB := z_inH (z_b1 zB_3_128)
theorem zw_350 : Cond.fieldLink (z_mY 49).cls 11 "SlabMap$Ends" "edge" "[I" ∈ z_TB := z_inH (z_b1 (z_b2 zB_3_128))
theorem zw_351 : Cond.fieldLink (z_mY 49).cls 15 "SlabMap$Ends" "firstLonger" "[I" ∈ z_TB := z_inH (z_b1 (z_b2 (z_b2 zB_3_128)))
theorem zw_352 : Cond.fieldLink (z_mY 49).cls 18 "SlabMap$Ends" "nextAside" "[I" ∈ z_TB := z_inH (z_b1 (z_b2 (z_b2 (z_b2 zB_3_128))))
theorem zw_353 : Cond.fieldLink (z_mY 49).cls 21 "SlabMap$Ends" "seen" "[I" ∈ z_TB := z_inH (z_b1 (z_b2 (z_b2 (z_b2 (z_b2 zB_3_128)))))
theorem zw_354 : Cond.fieldLink (z_mY 50).cls 24 "SlabMap$Ends" "count" "I" ∈ z_TB := z_inH (z_b1 (z_b2 (z_b2 (z_b2 (z_b2 (z_b2 zB_3_128))))))
theorem zw_127 : Cond.initialized "SlabMap$Ends" ∈ z_TB := z_inH (z_b1 (z_b2 (z_b2 (z_b2 (z_b2 (z_b2 (z_b2 zB_3_128)))))))
theorem zw_975 : Cond.methodLink (z_mY 50).cls 28 (z_mY 53) ∈ z_TB := z_inH (z_b1 (z_b2 (z_b2 (z_b2 (z_b2 (z_b2 (z_b2 (z_b2 zB_3_128))))))))
def zB_3_136 := z_b2 (z_b2 (z_b2 (z_b2 (z_b2 (z_b2 (z_b2 (z_b2 zB_3_128)))))))
theorem zw_977 : Cond.instanceMethod (z_mY 53) ∈ z_TB := z_inH (z_b1 zB_3_136)
theorem zw_31 : Cond.selects (z_mY 53).cls (z_mY 53) (z_mY 53) ∈ z_TB := z_inH (z_b1 (z_b2 zB_3_136))
theorem zw_979 : Cond.methodLink (z_mY 50).cls 32 (z_mY 51) ∈ z_TB := z_inH (z_b1 (z_b2 (z_b2 zB_3_136)))
theorem zw_981 : Cond.instanceMethod (z_mY 51) ∈ z_TB := z_inH (z_b1 (z_b2 (z_b2 (z_b2 zB_3_136))))
theorem zw_32 : Cond.selects (z_mY 51).cls (z_mY 51) (z_mY 51) ∈ z_TB := z_inH (z_b1 (z_b2 (z_b2 (z_b2 (z_b2 zB_3_136)))))
theorem zw_244 : Cond.fieldLink (z_mY 51).cls 36 "SlabMap$Slabs" "count" "I" ∈ z_TB := z_inH (z_b1 (z_b2 (z_b2 (z_b2 (z_b2 (z_b2 zB_3_136))))))
theorem zw_123 : Cond.initialized "SlabMap$Slabs" ∈ z_TB := z_inH (z_b1 (z_b2 (z_b2 (z_b2 (z_b2 (z_b2 (z_b2 zB_3_136)))))))
theorem zw_983 : Cond.methodLink (z_mY 51).cls 39 (z_mY 91) ∈ z_TB := z_inH (z_b1 (z_b2 (z_b2 (z_b2 (z_b2 (z_b2 (z_b2 (z_b2 zB_3_136))))))))
def zB_3_144 := z_b2 (z_b2 (z_b2 (z_b2 (z_b2 (z_b2 (z_b2 (z_b2 zB_3_136)))))))
theorem zw_747 : Cond.instanceMethod (z_mY 91) ∈ z_TB := z_inH (z_b1 zB_3_144)
theorem zw_748 : Cond.selects (z_mY 91).cls (z_mY 91) (z_mY 91) ∈ z_TB := z_inH (z_b1 (z_b2 zB_3_144))
theorem zw_984 : Cond.methodLink (z_mY 51).cls 43 (z_mY 92) ∈ z_TB := z_inH (z_b1 (z_b2 (z_b2 zB_3_144)))
theorem zw_755 : Cond.instanceMethod (z_mY 92) ∈ z_TB := z_inH (z_b1 (z_b2 (z_b2 (z_b2 zB_3_144))))
theorem zw_756 : Cond.selects (z_mY 92).cls (z_mY 92) (z_mY 92) ∈ z_TB := z_inH (z_b1 (z_b2 (z_b2 (z_b2 (z_b2 zB_3_144)))))
theorem zw_985 : Cond.methodLink (z_mY 51).cls 46 (z_mY 52) ∈ z_TB := z_inH (z_b1 (z_b2 (z_b2 (z_b2 (z_b2 (z_b2 zB_3_144))))))
theorem zw_987 : Cond.instanceMethod (z_mY 52) ∈ z_TB := z_inH (z_b1 (z_b2 (z_b2 (z_b2 (z_b2 (z_b2 (z_b2 zB_3_144)))))))
theorem zw_33 : Cond.selects (z_mY 52).cls (z_mY 52) (z_mY 52) ∈ z_TB := z_inH (z_b1 (z_b2 (z_b2 (z_b2 (z_b2 (z_b2 (z_b2 (z_b2 zB_3_144))))))))
def zB_3_152 := z_b2 (z_b2 (z_b2 (z_b2 (z_b2 (z_b2 (z_b2 (z_b2 zB_3_144)))))))
theorem zw_283 : Cond.methodLink (z_mY 54).cls 3 objectInit ∈ z_TB := z_inH (z_b1 zB_3_152)
theorem zw_286 : Cond.fieldLink (z_mY 54).cls 11 "SlabMap$History" "rows" "[I" ∈ z_TB := z_inH (z_b1 (z_b2 zB_3_152))
theorem zw_284 : Cond.fieldLink (z_mY 55).cls 17 "SlabMap$History" "count" "I" ∈ z_TB := z_inH (z_b1 (z_b2 (z_b2 zB_3_152)))
theorem zw_227 : Cond.fieldLink (z_mY 56).cls 21 "SlabMap$Edges" "row" "[I" ∈ z_TB := z_inH (z_b1 (z_b2 (z_b2 (z_b2 zB_3_152))))
theorem zw_287 : Cond.fieldLink (z_mY 56).cls 24 "SlabMap$History" "next" "I" ∈ z_TB := z_inH (z_b1 (z_b2 (z_b2 (z_b2 (z_b2 zB_3_152)))))
theorem zw_874 : Cond.methodLink (z_mY 56).cls 27 arraycopyName ∈ z_TB := z_inH (z_b1 (z_b2 (z_b2 (z_b2 (z_b2 (z_b2 zB_3_152))))))
theorem zw_771 : Cond.methodLink (z_mY 57).cls 39 (z_mY 18) ∈ z_TB := z_inH (z_b1 (z_b2 (z_b2 (z_b2 (z_b2 (z_b2 (z_b2 zB_3_152)))))))
theorem zw_772 : Cond.instanceMethod (z_mY 18) ∈ z_TB := z_inH (z_b1 (z_b2 (z_b2 (z_b2 (z_b2 (z_b2 (z_b2 (z_b2 zB_3_152))))))))
def zB_3_160 := z_b2 (z_b2 (z_b2 (z_b2 (z_b2 (z_b2 (z_b2 (z_b2 zB_3_152)))))))
theorem zw_773 : Cond.selects (z_mY 18).cls (z_mY 18) (z_mY 18) ∈ z_TB := z_inH (z_b1 zB_3_160)
theorem zw_124 : Cond.initialized "SlabMap$History" ∈ z_TB := z_inH (z_b1 (z_b2 zB_3_160))
theorem zw_939 : Cond.methodLink (z_mY 58).cls 43 (z_mY 57) ∈ z_TB := z_inH (z_b1 (z_b2 (z_b2 zB_3_160)))
theorem zw_768 : Cond.instanceMethod (z_mY 57) ∈ z_TB := z_inH (z_b1 (z_b2 (z_b2 (z_b2 zB_3_160))))
theorem zw_769 : Cond.selects (z_mY 57).cls (z_mY 57) (z_mY 57) ∈ z_TB := z_inH (z_b1 (z_b2 (z_b2 (z_b2 (z_b2 zB_3_160)))))
theorem zw_300 : Cond.methodLink (z_mY 59).cls 3 objectInit ∈ z_TB := z_inH (z_b1 (z_b2 (z_b2 (z_b2 (z_b2 (z_b2 zB_3_160))))))
theorem zw_301 : Cond.fieldLink (z_mY 59).cls 11 "SlabMap$Log" "rows" "[I" ∈ z_TB := z_inH (z_b1 (z_b2 (z_b2 (z_b2 (z_b2 (z_b2 (z_b2 zB_3_160)))))))
theorem zw_302 : Cond.fieldLink (z_mY 60).cls 15 "SlabMap$Log" "total" "I" ∈ z_TB := z_inH (z_b1 (z_b2 (z_b2 (z_b2 (z_b2 (z_b2 (z_b2 (z_b2 zB_3_160))))))))
def zB_3_168 := z_b2 (z_b2 (z_b2 (z_b2 (z_b2 (z_b2 (z_b2 (z_b2 zB_3_160)))))))
theorem zw_1121 : Cond.methodLink (z_mY 61).cls 19 arraycopyName ∈ z_TB := z_inH (z_b1 zB_3_168)
theorem zw_125 : Cond.initialized "SlabMap$Log" ∈ z_TB := z_inH (z_b1 (z_b2 zB_3_168))
theorem zw_953 : Cond.methodLink (z_mY 65).cls 34 (z_mY 64) ∈ z_TB := z_inH (z_b1 (z_b2 (z_b2 zB_3_168)))
theorem zw_954 : Cond.instanceMethod (z_mY 64) ∈ z_TB := z_inH (z_b1 (z_b2 (z_b2 (z_b2 zB_3_168))))
theorem zw_955 : Cond.selects (z_mY 64).cls (z_mY 64) (z_mY 64) ∈ z_TB := z_inH (z_b1 (z_b2 (z_b2 (z_b2 (z_b2 zB_3_168)))))
theorem zw_958 : Cond.constant (z_mY 65).cls 38 (-1000000) ∈ z_TB := z_inH (z_b1 (z_b2 (z_b2 (z_b2 (z_b2 (z_b2 zB_3_168))))))
theorem zw_169 : Cond.methodLink (z_mY 66).cls 3 objectInit ∈ z_TB := z_inH (z_b1 (z_b2 (z_b2 (z_b2 (z_b2 (z_b2 (z_b2 zB_3_168)))))))
theorem zw_189 : Cond.fieldLink (z_mY 66).cls 13 "SlabMap$Reader" "edges" "[I" ∈ z_TB := z_inH (z_b1 (z_b2 (z_b2 (z_b2 (z_b2 (z_b2 (z_b2 (z_b2 zB_3_168))))))))
def zB_3_176 := z_b2 (z_b2 (z_b2 (z_b2 (z_b2 (z_b2 (z_b2 (z_b2 zB_3_168)))))))
theorem zw_193 : Cond.fieldLink (z_mY 66).cls 18 "SlabMap$Reader" "names" "[I" ∈ z_TB := z_inH (z_b1 zB_3_176)
theorem zw_172 : Cond.classLink (z_mY 66).cls 21 "SlabMap$Steps" ∈ z_TB := z_inH (z_b1 (z_b2 zB_3_176))
theorem zw_173 : Cond.instantiable "SlabMap$Steps" 2 ∈ z_TB := z_inH (z_b1 (z_b2 (z_b2 zB_3_176)))
theorem zw_120 : Cond.initialized "SlabMap$Steps" ∈ z_TB := z_inH (z_b1 (z_b2 (z_b2 (z_b2 zB_3_176))))
theorem zw_175 : Cond.instanceMethod (z_mY 113) ∈ z_TB := z_inH (z_b1 (z_b2 (z_b2 (z_b2 (z_b2 zB_3_176)))))
theorem zw_195 : Cond.fieldLink (z_mY 66).cls 24 "SlabMap$Reader" "steps" "LSlabMap$Steps;" ∈ z_TB := z_inH (z_b1 (z_b2 (z_b2 (z_b2 (z_b2 (z_b2 zB_3_176))))))
theorem zw_197 : Cond.fieldLink (z_mY 66).cls 28 "SlabMap$Reader" "tape" "LSlabMap$Tape;" ∈ z_TB := z_inH (z_b1 (z_b2 (z_b2 (z_b2 (z_b2 (z_b2 (z_b2 zB_3_176)))))))
theorem zw_119 : Cond.initialized "SlabMap$Reader" ∈ z_TB := z_inH (z_b1 (z_b2 (z_b2 (z_b2 (z_b2 (z_b2 (z_b2 (z_b2 zB_3_176))))))))
def zB_3_184 := z_b2 (z_b2 (z_b2 (z_b2 (z_b2 (z_b2 (z_b2 (z_b2 zB_3_176)))))))
theorem zw_461 : Cond.methodLink (z_mY 67).cls 32 (z_mY 69) ∈ z_TB := z_inH (z_b1 zB_3_184)
theorem zw_463 : Cond.instanceMethod (z_mY 69) ∈ z_TB := z_inH (z_b1 (z_b2 zB_3_184))
theorem zw_0 : Cond.selects (z_mY 69).cls (z_mY 69) (z_mY 69) ∈ z_TB := z_inH (z_b1 (z_b2 (z_b2 zB_3_184)))
theorem zw_191 : Cond.fieldLink (z_mY 67).cls 35 "SlabMap$Reader" "edgeCount" "I" ∈ z_TB := z_inH (z_b1 (z_b2 (z_b2 (z_b2 zB_3_184))))
theorem zw_465 : Cond.methodLink (z_mY 67).cls 39 (z_mY 298) ∈ z_TB := z_inH (z_b1 (z_b2 (z_b2 (z_b2 (z_b2 zB_3_184)))))
theorem zw_155 : Cond.fieldLink (z_mY 67).cls 45 "SlabMap$Tape" "length" "I" ∈ z_TB := z_inH (z_b1 (z_b2 (z_b2 (z_b2 (z_b2 (z_b2 zB_3_184))))))
theorem zw_466 : Cond.methodLink (z_mY 67).cls 50 (z_mY 76) ∈ z_TB := z_inH (z_b1 (z_b2 (z_b2 (z_b2 (z_b2 (z_b2 (z_b2 zB_3_184)))))))
theorem zw_468 : Cond.instanceMethod (z_mY 76) ∈ z_TB := z_inH (z_b1 (z_b2 (z_b2 (z_b2 (z_b2 (z_b2 (z_b2 (z_b2 zB_3_184))))))))
def zB_3_192 := z_b2 (z_b2 (z_b2 (z_b2 (z_b2 (z_b2 (z_b2 (z_b2 zB_3_184)))))))
theorem zw_1 : Cond.selects (z_mY 76).cls (z_mY 76) (z_mY 76) ∈ z_TB := z_inH (z_b1 zB_3_192)
theorem zw_511 : Cond.methodLink (z_mY 67).cls 53 (z_mY 75) ∈ z_TB := z_inH (z_b1 (z_b2 zB_3_192))
theorem zw_513 : Cond.instanceMethod (z_mY 75) ∈ z_TB := z_inH (z_b1 (z_b2 (z_b2 zB_3_192)))
theorem zw_10 : Cond.selects (z_mY 75).cls (z_mY 75) (z_mY 75) ∈ z_TB := z_inH (z_b1 (z_b2 (z_b2 (z_b2 zB_3_192))))
theorem zw_199 : Cond.fieldLink (z_mY 67).cls 57 "SlabMap$Reader" "fault" "I" ∈ z_TB := z_inH (z_b1 (z_b2 (z_b2 (z_b2 (z_b2 zB_3_192)))))
theorem zw_182 : Cond.fieldLink (z_mY 68).cls 60 "SlabMap$Steps" "count" "I" ∈ z_TB := z_inH (z_b1 (z_b2 (z_b2 (z_b2 (z_b2 (z_b2 zB_3_192))))))
theorem zw_519 : Cond.methodLink (z_mY 68).cls 63 (z_mY 78) ∈ z_TB := z_inH (z_b1 (z_b2 (z_b2 (z_b2 (z_b2 (z_b2 (z_b2 zB_3_192)))))))
theorem zw_521 : Cond.instanceMethod (z_mY 78) ∈ z_TB := z_inH (z_b1 (z_b2 (z_b2 (z_b2 (z_b2 (z_b2 (z_b2 (z_b2 zB_3_192))))))))
set_option maxRecDepth 100000 in
theorem zB_4_0 : (decide (z_hw 11 (Cond.selects (z_mY 78).cls (z_mY 78) (z_mY 78))) && (decide (z_hw 198 (Cond.fieldLink (z_mY 68).cls 67 "SlabMap$Reader" "next" "I")) && (decide (z_hw 154 (Cond.fieldLink (z_mY 71).cls 70 "SlabMap$Tape" "bytes" "[I")) && (decide (z_hw 470 (Cond.methodLink (z_mY 75).cls 73 (z_mY 74))) && (decide (z_hw 472 (Cond.instanceMethod (z_mY 74))) && (decide (z_hw 2 (Cond.selects (z_mY 74).cls (z_mY 74) (z_mY 74))) && (decide (z_hw 474 (Cond.methodLink (z_mY 75).cls 76 (z_mY 71))) && (decide (z_hw 476 (Cond.instanceMethod (z_mY 71))) && (decide (z_hw 3 (Cond.selects (z_mY 71).cls (z_mY 71) (z_mY 71))) && (decide (z_hw 486 (Cond.methodLink (z_mY 75).cls 80 (z_mY 70))) && (decide (z_hw 488 (Cond.instanceMethod (z_mY 70))) && (decide (z_hw 6 (Cond.selects (z_mY 70).cls (z_mY 70) (z_mY 70))) && (decide (z_hw 478 (Cond.methodLink (z_mY 76).cls 83 (z_mY 80))) && (decide (z_hw 480 (Cond.instanceMethod (z_mY 80))) && (decide (z_hw 4 (Cond.selects (z_mY 80).cls (z_mY 80) (z_mY 80))) && (decide (z_hw 504 (Cond.methodLink (z_mY 76).cls 87 (z_mY 77))) && (decide (z_hw 506 (Cond.instanceMethod (z_mY 77))) && (decide (z_hw 9 (Cond.selects (z_mY 77).cls (z_mY 77) (z_mY 77))) && (decide (z_hw 498 (Cond.methodLink (z_mY 77).cls 90 (z_mY 72))) && (decide (z_hw 499 (Cond.static (z_mY 72))) && (decide (z_hw 508 (Cond.methodLink (z_mY 77).cls 94 (z_mY 73))) && (decide (z_hw 509 (Cond.static (z_mY 73))) && (decide (z_hw 523 (Cond.methodLink (z_mY 78).cls 98 (z_mY 79))) && (decide (z_hw 524 (Cond.static (z_mY 79))) && (decide (z_hw 180 (Cond.fieldLink (z_mY 78).cls 101 "SlabMap$Steps" "numbers" "[I")) && (decide (z_hw 526 (Cond.constant (z_mY 78).cls 104 (-1000000))) && (decide (z_hw 482 (Cond.methodLink (z_mY 80).cls 105 (z_mY 82))) && (decide (z_hw 484 (Cond.instanceMethod (z_mY 82))) && (decide (z_hw 5 (Cond.selects (z_mY 82).cls (z_mY 82) (z_mY 82))) && (decide (z_hw 490 (Cond.methodLink (z_mY 80).cls 108 (z_mY 83))) && (decide (z_hw 492 (Cond.instanceMethod (z_mY 83))) && (decide (z_hw 7 (Cond.selects (z_mY 83).cls (z_mY 83) (z_mY 83))) && (decide (z_hw 501 (Cond.methodLink (z_mY 80).cls 111 (z_mY 81))) && (decide (z_hw 502 (Cond.static (z_mY 81))) && (decide (z_hw 494 (Cond.methodLink (z_mY 80).cls 115 (z_mY 84))) && (decide (z_hw 496 (Cond.instanceMethod (z_mY 84))) && (decide (z_hw 8 (Cond.selects (z_mY 84).cls (z_mY 84) (z_mY 84))) && (decide (z_hw 240 (Cond.methodLink (z_mY 85).cls 3 objectInit)) && (decide (z_hw 241 (Cond.fieldLink (z_mY 85).cls 9 "SlabMap$Slabs" "stale" "Z")) && (decide (z_hw 247 (Cond.fieldLink (z_mY 85).cls 15 "SlabMap$Slabs" "cuts" "[I")) && (decide (z_hw 248 (Cond.fieldLink (z_mY 85).cls 19 "SlabMap$Slabs" "lengths" "[I")) && (decide (z_hw 249 (Cond.fieldLink (z_mY 85).cls 22 "SlabMap$Slabs" "lists" "[I")) && (decide (z_hw 250 (Cond.fieldLink (z_mY 85).cls 25 "SlabMap$Slabs" "partFrom" "[I")) && (decide (z_hw 251 (Cond.fieldLink (z_mY 85).cls 28 "SlabMap$Slabs" "partRegion" "[I")) && (decide (z_hw 253 (Cond.fieldLink (z_mY 85).cls 31 "SlabMap$Slabs" "pointCounts" "[I")) && (decide (z_hw 254 (Cond.fieldLink (z_mY 85).cls 34 "SlabMap$Slabs" "neighbourBits" "[I")) && (decide (z_hw 246 (Cond.fieldLink (z_mY 85).cls 37 "SlabMap$Slabs" "edges" "LSlabMap$Edges;")) && (decide (z_hw 711 (Cond.methodLink (z_mY 86).cls 41 (z_mY 44))) && (decide (z_hw 243 (Cond.fieldLink (z_mY 86).cls 53 "SlabMap$Slabs" "count" "I")) && (decide (z_hw 713 (Cond.methodLink (z_mY 86).cls 57 (z_mY 87))) && (decide (z_hw 715 (Cond.instanceMethod (z_mY 87))) && (decide (z_hw 22 (Cond.selects (z_mY 87).cls (z_mY 87) (z_mY 87))) && (decide (z_hw 717 (Cond.methodLink (z_mY 87).cls 61 (z_mY 19))) && (decide (z_hw 718 (Cond.methodLink (z_mY 87).cls 65 (z_mY 20))) && (decide (z_hw 719 (Cond.methodLink (z_mY 87).cls 69 (z_mY 89))) && (decide (z_hw 720 (Cond.instanceMethod (z_mY 89))) && (decide (z_hw 721 (Cond.selects (z_mY 89).cls (z_mY 89) (z_mY 89))) && (decide (z_hw 723 (Cond.methodLink (z_mY 87).cls 72 (z_mY 22))) && (decide (z_hw 724 (Cond.methodLink (z_mY 87).cls 75 (z_mY 90))) && (decide (z_hw 725 (Cond.instanceMethod (z_mY 90))) && (decide (z_hw 726 (Cond.selects (z_mY 90).cls (z_mY 90) (z_mY 90))) && (decide (z_hw 728 (Cond.methodLink (z_mY 87).cls 78 (z_mY 88))) && (decide (z_hw 730 (Cond.instanceMethod (z_mY 88))) && (decide (z_hw 23 (Cond.selects (z_mY 88).cls (z_mY 88) (z_mY 88))) && (decide (z_hw 732 (Cond.methodLink (z_mY 88).cls 82 (z_mY 28))) && (decide (z_hw 733 (Cond.instanceMethod (z_mY 28))) && (decide (z_hw 734 (Cond.selects (z_mY 28).cls (z_mY 28) (z_mY 28))) && (decide (z_hw 758 (Cond.methodLink (z_mY 92).cls 86 (z_mY 91))) && (decide (z_hw 785 (Cond.methodLink (z_mY 95).cls 89 (z_mY 92))) && (decide (z_hw 786 (Cond.methodLink (z_mY 95).cls 92 (z_mY 27))) && (decide (z_hw 787 (Cond.instanceMethod (z_mY 27))) && (decide (z_hw 788 (Cond.selects (z_mY 27).cls (z_mY 27) (z_mY 27))) && (decide (z_hw 794 (Cond.methodLink (z_mY 96).cls 95 (z_mY 24))) && (decide (z_hw 814 (Cond.methodLink (z_mY 100).cls 98 (z_mY 298))) && (decide (z_hw 836 (Cond.methodLink (z_mY 100).cls 104 (z_mY 96))) && (decide (z_hw 791 (Cond.instanceMethod (z_mY 96))) && (decide (z_hw 792 (Cond.selects (z_mY 96).cls (z_mY 96) (z_mY 96))) && (decide (z_hw 1099 (Cond.methodLink (z_mY 101).cls 107 (z_mY 100))) && (decide (z_hw 833 (Cond.instanceMethod (z_mY 100))) && (decide (z_hw 834 (Cond.selects (z_mY 100).cls (z_mY 100) (z_mY 100))) && (decide (z_hw 133 (Cond.initialized "java/lang/Integer")) && (decide (z_hw 1100 (Cond.methodLink (z_mY 101).cls 111 (z_mY 294))) && (decide (z_hw 690 (Cond.static (z_mY 294))) && (decide (z_hw 819 (Cond.methodLink (z_mY 103).cls 116 (z_mY 94))) && (decide (z_hw 778 (Cond.instanceMethod (z_mY 94))) && (decide (z_hw 779 (Cond.selects (z_mY 94).cls (z_mY 94) (z_mY 94))) && (decide (z_hw 252 (Cond.fieldLink (z_mY 103).cls 119 "SlabMap$Slabs" "parts" "I")) && (decide (z_hw 820 (Cond.methodLink (z_mY 103).cls 122 (z_mY 29))) && (decide (z_hw 821 (Cond.instanceMethod (z_mY 29))) && (decide (z_hw 822 (Cond.selects (z_mY 29).cls (z_mY 29) (z_mY 29))) && (decide (z_hw 815 (Cond.methodLink (z_mY 105).cls 125 (z_mY 103))) && (decide (z_hw 817 (Cond.instanceMethod (z_mY 103))) && (decide (z_hw 25 (Cond.selects (z_mY 103).cls (z_mY 103) (z_mY 103))) && (decide (z_hw 824 (Cond.methodLink (z_mY 105).cls 128 (z_mY 104))) && (decide (z_hw 826 (Cond.instanceMethod (z_mY 104))) && (decide (z_hw 26 (Cond.selects (z_mY 104).cls (z_mY 104) (z_mY 104))) && (decide (z_hw 1094 (Cond.methodLink (z_mY 106).cls 131 (z_mY 105))) && (decide (z_hw 811 (Cond.instanceMethod (z_mY 105))) && (decide (z_hw 812 (Cond.selects (z_mY 105).cls (z_mY 105) (z_mY 105))) && (decide (z_hw 997 (Cond.methodLink (z_mY 108).cls 134 (z_mY 109))) && (decide (z_hw 999 (Cond.instanceMethod (z_mY 109))) && (decide (z_hw 34 (Cond.selects (z_mY 109).cls (z_mY 109) (z_mY 109))) && (decide (z_hw 1006 (Cond.methodLink (z_mY 110).cls 141 (z_mY 111))) && (decide (z_hw 1008 (Cond.instanceMethod (z_mY 111))) && (decide (z_hw 35 (Cond.selects (z_mY 111).cls (z_mY 111) (z_mY 111))) && (decide (z_hw 1010 (Cond.methodLink (z_mY 111).cls 145 (z_mY 112))) && (decide (z_hw 1012 (Cond.instanceMethod (z_mY 112))) && (decide (z_hw 36 (Cond.selects (z_mY 112).cls (z_mY 112) (z_mY 112))) && (decide (z_hw 177 (Cond.methodLink (z_mY 113).cls 3 objectInit)) && (decide (z_hw 178 (Cond.fieldLink (z_mY 113).cls 11 "SlabMap$Steps" "numbers" "[I")) && (decide (z_hw 666 (Cond.methodLink (z_mY 114).cls 15 arraycopyName)) && (decide (z_hw 181 (Cond.fieldLink (z_mY 114).cls 21 "SlabMap$Steps" "count" "I")) && (decide (z_hw 1064 (Cond.constant (z_mY 115).cls 25 (-1000000))) && (decide (z_hw 152 (Cond.methodLink (z_mY 116).cls 3 objectInit)) && (decide (z_hw 153 (Cond.fieldLink (z_mY 116).cls 9 "SlabMap$Tape" "bytes" "[I")) && (decide (z_hw 157 (Cond.fieldLink (z_mY 118).cls 15 "SlabMap$Tape" "length" "I")) && (decide (z_hw 144 (Cond.methodLink (z_mY 119).cls 3 objectInit)) && (decide (z_hw 147 (Cond.classLink (z_mY 119).cls 9 "SlabMap$Tape")) && (decide (z_hw 148 (Cond.instantiable "SlabMap$Tape" 2)) && (decide (z_hw 118 (Cond.initialized "SlabMap$Tape")) && (decide (z_hw 150 (Cond.instanceMethod (z_mY 116))) && (decide (z_hw 380 (Cond.fieldLink (z_mY 119).cls 12 "SlabMap" "tape" "LSlabMap$Tape;")) && (decide (z_hw 164 (Cond.classLink (z_mY 119).cls 16 "SlabMap$Reader")) && (decide (z_hw 165 (Cond.instantiable "SlabMap$Reader" 7)) && (decide (z_hw 166 (Cond.methodLink (z_mY 119).cls 18 (z_mY 66))) && (decide (z_hw 167 (Cond.instanceMethod (z_mY 66))) && (decide (z_hw 381 (Cond.fieldLink (z_mY 119).cls 21 "SlabMap" "reader" "LSlabMap$Reader;")) && (decide (z_hw 382 (Cond.fieldLink (z_mY 119).cls 25 "SlabMap" "names" "[I")) && (decide (z_hw 215 (Cond.classLink (z_mY 119).cls 29 "SlabMap$Steps")) && (decide (z_hw 383 (Cond.fieldLink (z_mY 119).cls 31 "SlabMap" "scripts" "[LSlabMap$Steps;")) && (decide (z_hw 217 (Cond.classLink (z_mY 119).cls 35 "SlabMap$Edges")) && (decide (z_hw 218 (Cond.instantiable "SlabMap$Edges" 2)) && (decide (z_hw 219 (Cond.methodLink (z_mY 119).cls 37 (z_mY 15))) && (decide (z_hw 220 (Cond.instanceMethod (z_mY 15))) && (decide (z_hw 386 (Cond.fieldLink (z_mY 119).cls 38 "SlabMap" "now" "LSlabMap$Edges;")) && (decide (z_hw 235 (Cond.classLink (z_mY 119).cls 42 "SlabMap$Slabs")) && (decide (z_hw 236 (Cond.instantiable "SlabMap$Slabs" 11)) && (decide (z_hw 237 (Cond.methodLink (z_mY 119).cls 44 (z_mY 85))) && (decide (z_hw 238 (Cond.instanceMethod (z_mY 85))) && (decide (z_hw 387 (Cond.fieldLink (z_mY 119).cls 47 "SlabMap" "nowSlabs" "LSlabMap$Slabs;")) && (decide (z_hw 388 (Cond.fieldLink (z_mY 119).cls 51 "SlabMap" "other" "LSlabMap$Edges;")) && (decide (z_hw 389 (Cond.fieldLink (z_mY 119).cls 54 "SlabMap" "otherSlabs" "LSlabMap$Slabs;")) && (decide (z_hw 278 (Cond.classLink (z_mY 119).cls 57 "SlabMap$History")) && (decide (z_hw 279 (Cond.instantiable "SlabMap$History" 3)) && (decide (z_hw 281 (Cond.instanceMethod (z_mY 54))) && (decide (z_hw 390 (Cond.fieldLink (z_mY 119).cls 60 "SlabMap" "history" "LSlabMap$History;")) && (decide (z_hw 295 (Cond.classLink (z_mY 119).cls 64 "SlabMap$Log")) && (decide (z_hw 296 (Cond.instantiable "SlabMap$Log" 2)) && (decide (z_hw 298 (Cond.instanceMethod (z_mY 59))) && (decide (z_hw 391 (Cond.fieldLink (z_mY 119).cls 67 "SlabMap" "log" "LSlabMap$Log;")) && (decide (z_hw 393 (Cond.fieldLink (z_mY 119).cls 71 "SlabMap" "image" "LSlabMap$Edges;")) && (decide (z_hw 394 (Cond.fieldLink (z_mY 119).cls 74 "SlabMap" "imageLog" "LSlabMap$Log;")) && (decide (z_hw 395 (Cond.fieldLink (z_mY 119).cls 77 "SlabMap" "status" "[I")) && (decide (z_hw 308 (Cond.classLink (z_mY 119).cls 80 "SlabMap$Act")) && (decide (z_hw 309 (Cond.instantiable "SlabMap$Act" 7)) && (decide (z_hw 311 (Cond.instanceMethod (z_mY 0))) && (decide (z_hw 396 (Cond.fieldLink (z_mY 119).cls 83 "SlabMap" "act" "LSlabMap$Act;")) && (decide (z_hw 344 (Cond.classLink (z_mY 119).cls 87 "SlabMap$Ends")) && (decide (z_hw 345 (Cond.instantiable "SlabMap$Ends" 5)) && (decide (z_hw 347 (Cond.instanceMethod (z_mY 49))) && (decide (z_hw 397 (Cond.fieldLink (z_mY 119).cls 90 "SlabMap" "ends" "LSlabMap$Ends;")) && (decide (z_hw 366 (Cond.classLink (z_mY 119).cls 94 "SlabMap$Colours")) && (decide (z_hw 367 (Cond.instantiable "SlabMap$Colours" 2)) && (decide (z_hw 369 (Cond.instanceMethod (z_mY 8))) && (decide (z_hw 398 (Cond.fieldLink (z_mY 119).cls 97 "SlabMap" "colours" "LSlabMap$Colours;")) && (decide (z_hw 442 (Cond.methodLink (z_mY 120).cls 101 (z_mY 117))) && (decide (z_hw 443 (Cond.static (z_mY 117))) && (decide (z_hw 156 (Cond.fieldLink (z_mY 120).cls 105 "SlabMap$Tape" "length" "I")) && (decide (z_hw 445 (Cond.methodLink (z_mY 120).cls 109 (z_mY 118))) && (decide (z_hw 446 (Cond.instanceMethod (z_mY 118))) && (decide (z_hw 447 (Cond.selects (z_mY 118).cls (z_mY 118) (z_mY 118))) && (decide (z_hw 457 (Cond.methodLink (z_mY 122).cls 113 (z_mY 67))) && (decide (z_hw 458 (Cond.instanceMethod (z_mY 67))) && (decide (z_hw 459 (Cond.selects (z_mY 67).cls (z_mY 67) (z_mY 67))) && (decide (z_hw 515 (Cond.methodLink (z_mY 122).cls 117 (z_mY 68))) && (decide (z_hw 516 (Cond.instanceMethod (z_mY 68))) && (decide (z_hw 517 (Cond.selects (z_mY 68).cls (z_mY 68) (z_mY 68))) && (decide (z_hw 531 (Cond.methodLink (z_mY 123).cls 120 (z_mY 124))) && (decide (z_hw 533 (Cond.instanceMethod (z_mY 124))) && (decide (z_hw 12 (Cond.selects (z_mY 124).cls (z_mY 124) (z_mY 124))) && (decide (z_hw 657 (Cond.methodLink (z_mY 123).cls 123 (z_mY 125))) && (decide (z_hw 659 (Cond.instanceMethod (z_mY 125))) && (decide (z_hw 19 (Cond.selects (z_mY 125).cls (z_mY 125) (z_mY 125))) && (decide (z_hw 385 (Cond.fieldLink (z_mY 124).cls 126 "SlabMap" "hasMap" "Z")) && (decide (z_hw 392 (Cond.fieldLink (z_mY 124).cls 130 "SlabMap" "hasImage" "Z")) && (decide (z_hw 535 (Cond.methodLink (z_mY 124).cls 133 (z_mY 55))) && (decide (z_hw 536 (Cond.instanceMethod (z_mY 55))) && (decide (z_hw 537 (Cond.selects (z_mY 55).cls (z_mY 55) (z_mY 55))) && (decide (z_hw 539 (Cond.methodLink (z_mY 124).cls 136 (z_mY 60))) && (decide (z_hw 540 (Cond.instanceMethod (z_mY 60))) && (decide (z_hw 541 (Cond.selects (z_mY 60).cls (z_mY 60) (z_mY 60))) && (decide (z_hw 194 (Cond.fieldLink (z_mY 124).cls 137 "SlabMap$Reader" "names" "[I")) && (decide (z_hw 543 (Cond.methodLink (z_mY 124).cls 138 arraycopyName)) && (decide (z_hw 546 (Cond.methodLink (z_mY 124).cls 144 (z_mY 16))) && (decide (z_hw 547 (Cond.instanceMethod (z_mY 16))) && (decide (z_hw 548 (Cond.selects (z_mY 16).cls (z_mY 16) (z_mY 16))) && (decide (z_hw 242 (Cond.fieldLink (z_mY 124).cls 145 "SlabMap$Slabs" "stale" "Z")) && (decide (z_hw 192 (Cond.fieldLink (z_mY 124).cls 148 "SlabMap$Reader" "edgeCount" "I")) && (decide (z_hw 190 (Cond.fieldLink (z_mY 124).cls 151 "SlabMap$Reader" "edges" "[I")) && (decide (z_hw 550 (Cond.fieldLink (z_mY 124).cls 154 "SlabMap" "NUMBERS_OF_SORT" "[I")) && (true))))))))))))))))))))))))))))))))))))))))))))))))))))))))))))))))))))))))))))))))))))))))))))))))))))))))))))))))))))))))))))))))))))))))))))))))))))))))))))))))))))))))))))))))))))))))))))))))))))))))) = true := by decide +kernel
theorem zw_11 : Cond.selects (z_mY 78).cls (z_mY 78) (z_mY 78) ∈ z_TB := z_inH (z_b1 zB_4_0)
theorem zw_198 : Cond.fieldLink (z_mY 68).cls 67 "SlabMap$Reader" "next" "I" ∈ z_TB := z_inH (z_b1 (z_b2 zB_4_0))
theorem zw_154 : Cond.fieldLink (z_mY 71).cls 70 "SlabMap$Tape" "bytes" "[I" ∈ z_TB := z_inH (z_b1 (z_b2 (z_b2 zB_4_0)))
theorem zw_470 : Cond.methodLink (z_mY 75).cls 73 (z_mY 74) ∈ z_TB := z_inH (z_b1 (z_b2 (z_b2 (z_b2 zB_4_0))))
theorem zw_472 : Cond.instanceMethod (z_mY 74) ∈ z_TB := z_inH (z_b1 (z_b2 (z_b2 (z_b2 (z_b2 zB_4_0)))))
theorem zw_2 : Cond.selects (z_mY 74).cls (z_mY 74) (z_mY 74) ∈ z_TB := z_inH (z_b1 (z_b2 (z_b2 (z_b2 (z_b2 (z_b2 zB_4_0))))))
theorem zw_474 : Cond.methodLink (z_mY 75).cls 76 (z_mY 71) ∈ z_TB := z_inH (z_b1 (z_b2 (z_b2 (z_b2 (z_b2 (z_b2 (z_b2 zB_4_0)))))))
theorem zw_476 : Cond.instanceMethod (z_mY 71) ∈ z_TB := z_inH (z_b1 (z_b2 (z_b2 (z_b2 (z_b2 (z_b2 (z_b2 (z_b2 zB_4_0))))))))
def zB_4_8 := z_b2 (z_b2 (z_b2 (z_b2 (z_b2 (z_b2 (z_b2 (z_b2 zB_4_0)))))))
theorem zw_3 : Cond.selects (z_mY 71).cls (z_mY 71) (z_mY 71) ∈ z_TB := z_inH (z_b1 zB_4_8)
theorem zw_486 : Cond.methodLink (z_mY 75).cls 80 (z_mY 70) ∈ z_TB := z_inH (z_b1 (z_b2 zB_4_8))
theorem zw_488 : Cond.instanceMethod (z_mY 70) ∈ z_TB := z_inH (z_b1 (z_b2 (z_b2 zB_4_8)))
theorem zw_6 : Cond.selects (z_mY 70).cls (z_mY 70) (z_mY 70) ∈ z_TB := z_inH (z_b1 (z_b2 (z_b2 (z_b2 zB_4_8))))
theorem zw_478 : Cond.methodLink (z_mY 76).cls 83 (z_mY 80) ∈ z_TB := z_inH (z_b1 (z_b2 (z_b2 (z_b2 (z_b2 zB_4_8)))))
theorem zw_480 : Cond.instanceMethod (z_mY 80) ∈ z_TB := z_inH (z_b1 (z_b2 (z_b2 (z_b2 (z_b2 (z_b2 zB_4_8))))))
theorem zw_4 : Cond.selects (z_mY 80).cls (z_mY 80) (z_mY 80) ∈ z_TB := z_inH (z_b1 (z_b2 (z_b2 (z_b2 (z_b2 (z_b2 (z_b2 zB_4_8)))))))
theorem zw_504 : Cond.methodLink (z_mY 76).cls 87 (z_mY 77) ∈ z_TB := z_inH (z_b1 (z_b2 (z_b2 (z_b2 (z_b2 (z_b2 (z_b2 (z_b2 zB_4_8))))))))
def zB_4_16 := z_b2 (z_b2 (z_b2 (z_b2 (z_b2 (z_b2 (z_b2 (z_b2 zB_4_8)))))))
theorem zw_506 : Cond.instanceMethod (z_mY 77) ∈ z_TB := z_inH (z_b1 zB_4_16)
theorem zw_9 : Cond.selects (z_mY 77).cls (z_mY 77) (z_mY 77) ∈ z_TB := z_inH (z_b1 (z_b2 zB_4_16))
theorem zw_498 : Cond.methodLink (z_mY 77).cls 90 (z_mY 72) ∈ z_TB := z_inH (z_b1 (z_b2 (z_b2 zB_4_16)))
theorem zw_499 : Cond.static (z_mY 72) ∈ z_TB := z_inH (z_b1 (z_b2 (z_b2 (z_b2 zB_4_16))))
theorem zw_508 : Cond.methodLink (z_mY 77).cls 94 (z_mY 73) ∈ z_TB := z_inH (z_b1 (z_b2 (z_b2 (z_b2 (z_b2 zB_4_16)))))
theorem zw_509 : Cond.static (z_mY 73) ∈ z_TB := z_inH (z_b1 (z_b2 (z_b2 (z_b2 (z_b2 (z_b2 zB_4_16))))))
theorem zw_523 : Cond.methodLink (z_mY 78).cls 98 (z_mY 79) ∈ z_TB := z_inH (z_b1 (z_b2 (z_b2 (z_b2 (z_b2 (z_b2 (z_b2 zB_4_16)))))))
theorem zw_524 : Cond.static (z_mY 79) ∈ z_TB := z_inH (z_b1 (z_b2 (z_b2 (z_b2 (z_b2 (z_b2 (z_b2 (z_b2 zB_4_16))))))))
def zB_4_24 := z_b2 (z_b2 (z_b2 (z_b2 (z_b2 (z_b2 (z_b2 (z_b2 zB_4_16)))))))
theorem zw_180 : Cond.fieldLink (z_mY 78).cls 101 "SlabMap$Steps" "numbers" "[I" ∈ z_TB := z_inH (z_b1 zB_4_24)
theorem zw_526 : Cond.constant (z_mY 78).cls 104 (-1000000) ∈ z_TB := z_inH (z_b1 (z_b2 zB_4_24))
theorem zw_482 : Cond.methodLink (z_mY 80).cls 105 (z_mY 82) ∈ z_TB := z_inH (z_b1 (z_b2 (z_b2 zB_4_24)))
theorem zw_484 : Cond.instanceMethod (z_mY 82) ∈ z_TB := z_inH (z_b1 (z_b2 (z_b2 (z_b2 zB_4_24))))
theorem zw_5 : Cond.selects (z_mY 82).cls (z_mY 82) (z_mY 82) ∈ z_TB := z_inH (z_b1 (z_b2 (z_b2 (z_b2 (z_b2 zB_4_24)))))
theorem zw_490 : Cond.methodLink (z_mY 80).cls 108 (z_mY 83) ∈ z_TB := z_inH (z_b1 (z_b2 (z_b2 (z_b2 (z_b2 (z_b2 zB_4_24))))))
theorem zw_492 : Cond.instanceMethod (z_mY 83) ∈ z_TB := z_inH (z_b1 (z_b2 (z_b2 (z_b2 (z_b2 (z_b2 (z_b2 zB_4_24)))))))
theorem zw_7 : Cond.selects (z_mY 83).cls (z_mY 83) (z_mY 83) ∈ z_TB := z_inH (z_b1 (z_b2 (z_b2 (z_b2 (z_b2 (z_b2 (z_b2 (z_b2 zB_4_24))))))))
def zB_4_32 := z_b2 (z_b2 (z_b2 (z_b2 (z_b2 (z_b2 (z_b2 (z_b2 zB_4_24)))))))
theorem zw_501 : Cond.methodLink (z_mY 80).cls 111 (z_mY 81) ∈ z_TB := z_inH (z_b1 zB_4_32)
theorem zw_502 : Cond.static (z_mY 81) ∈ z_TB := z_inH (z_b1 (z_b2 zB_4_32))
theorem zw_494 : Cond.methodLink (z_mY 80).cls 115 (z_mY 84) ∈ z_TB := z_inH (z_b1 (z_b2 (z_b2 zB_4_32)))
theorem zw_496 : Cond.instanceMethod (z_mY 84) ∈ z_TB := z_inH (z_b1 (z_b2 (z_b2 (z_b2 zB_4_32))))
theorem zw_8 : Cond.selects (z_mY 84).cls (z_mY 84) (z_mY 84) ∈ z_TB := z_inH (z_b1 (z_b2 (z_b2 (z_b2 (z_b2 zB_4_32)))))
theorem zw_240 : Cond.methodLink (z_mY 85).cls 3 objectInit ∈ z_TB := z_inH (z_b1 (z_b2 (z_b2 (z_b2 (z_b2 (z_b2 zB_4_32))))))
theorem zw_241 : Cond.fieldLink (z_mY 85).cls 9 "SlabMap$Slabs" "stale" "Z" ∈ z_TB := z_inH (z_b1 (z_b2 (z_b2 (z_b2 (z_b2 (z_b2 (z_b2 zB_4_32)))))))
theorem zw_247 : Cond.fieldLink (z_mY 85).cls 15 "SlabMap$Slabs" "cuts" "[I" ∈ z_TB := z_inH (z_b1 (z_b2 (z_b2 (z_b2 (z_b2 (z_b2 (z_b2 (z_b2 zB_4_32))))))))
def zB_4_40 := z_b2 (z_b2 (z_b2 (z_b2 (z_b2 (z_b2 (z_b2 (z_b2 zB_4_32)))))))
theorem zw_248 : Cond.fieldLink (z_mY 85).cls 19 "SlabMap$Slabs" "lengths" "[I" ∈ z_TB := z_inH (z_b1 zB_4_40)
theorem zw_249 : Cond.fieldLink (z_mY 85).cls 22 "SlabMap$Slabs" "lists" "[I" ∈ z_TB := z_inH (z_b1 (z_b2 zB_4_40))
theorem zw_250 : Cond.fieldLink (z_mY 85).cls 25 "SlabMap$Slabs" "partFrom" "[I" ∈ z_TB := z_inH (z_b1 (z_b2 (z_b2 zB_4_40)))
theorem zw_251 : Cond.fieldLink (z_mY 85).cls 28 "SlabMap$Slabs" "partRegion" "[I" ∈ z_TB := z_inH (z_b1 (z_b2 (z_b2 (z_b2 zB_4_40))))
theorem zw_253 : Cond.fieldLink (z_mY 85).cls 31 "SlabMap$Slabs" "pointCounts" "[I" ∈ z_TB := z_inH (z_b1 (z_b2 (z_b2 (z_b2 (z_b2 zB_4_40)))))
theorem zw_254 : Cond.fieldLink (z_mY 85).cls 34 "SlabMap$Slabs" "neighbourBits" "[I" ∈ z_TB := z_inH (z_b1 (z_b2 (z_b2 (z_b2 (z_b2 (z_b2 zB_4_40))))))
theorem zw_246 : Cond.fieldLink (z_mY 85).cls 37 "SlabMap$Slabs" "edges" "LSlabMap$Edges;" ∈ z_TB := z_inH (z_b1 (z_b2 (z_b2 (z_b2 (z_b2 (z_b2 (z_b2 zB_4_40)))))))
theorem zw_711 : Cond.methodLink (z_mY 86).cls 41 (z_mY 44) ∈ z_TB := z_inH (z_b1 (z_b2 (z_b2 (z_b2 (z_b2 (z_b2 (z_b2 (z_b2 zB_4_40))))))))
def zB_4_48 := z_b2 (z_b2 (z_b2 (z_b2 (z_b2 (z_b2 (z_b2 (z_b2 zB_4_40)))))))
theorem zw_243 : Cond.fieldLink (z_mY 86).cls 53 "SlabMap$Slabs" "count" "I" ∈ z_TB := z_inH (z_b1 zB_4_48)
theorem zw_713 : Cond.methodLink (z_mY 86).cls 57 (z_mY 87) ∈ z_TB := z_inH (z_b1 (z_b2 zB_4_48))
theorem zw_715 : Cond.instanceMethod (z_mY 87) ∈ z_TB := z_inH (z_b1 (z_b2 (z_b2 zB_4_48)))
theorem zw_22 : Cond.selects (z_mY 87).cls (z_mY 87) (z_mY 87) ∈ z_TB := z_inH (z_b1 (z_b2 (z_b2 (z_b2 zB_4_48))))
theorem zw_717 : Cond.methodLink (z_mY 87).cls 61 (z_mY 19) ∈ z_TB := z_inH (z_b1 (z_b2 (z_b2 (z_b2 (z_b2 zB_4_48)))))
theorem zw_718 : Cond.methodLink (z_mY 87).cls 65 (z_mY 20) ∈ z_TB := z_inH (z_b1 (z_b2 (z_b2 (z_b2 (z_b2 (z_b2 zB_4_48))))))
theorem zw_719 : Cond.methodLink (z_mY 87).cls 69 (z_mY 89) ∈ z_TB := z_inH (z_b1 (z_b2 (z_b2 (z_b2 (z_b2 (z_b2 (z_b2 zB_4_48)))))))
theorem zw_720 : Cond.instanceMethod (z_mY 89) ∈ z_TB := z_inH (z_b1 (z_b2 (z_b2 (z_b2 (z_b2 (z_b2 (z_b2 (z_b2 zB_4_48))))))))
def zB_4_56 := z_b2 (z_b2 (z_b2 (z_b2 (z_b2 (z_b2 (z_b2 (z_b2 zB_4_48)))))))
theorem zw_721 : Cond.selects (z_mY 89).cls (z_mY 89) (z_mY 89) ∈ z_TB := z_inH (z_b1 zB_4_56)
theorem zw_723 : Cond.methodLink (z_mY 87).cls 72 (z_mY 22) ∈ z_TB := z_inH (z_b1 (z_b2 zB_4_56))
theorem zw_724 : Cond.methodLink (z_mY 87).cls 75 (z_mY 90) ∈ z_TB := z_inH (z_b1 (z_b2 (z_b2 zB_4_56)))
theorem zw_725 : Cond.instanceMethod (z_mY 90) ∈ z_TB := z_inH (z_b1 (z_b2 (z_b2 (z_b2 zB_4_56))))
theorem zw_726 : Cond.selects (z_mY 90).cls (z_mY 90) (z_mY 90) ∈ z_TB := z_inH (z_b1 (z_b2 (z_b2 (z_b2 (z_b2 zB_4_56)))))
theorem zw_728 : Cond.methodLink (z_mY 87).cls 78 (z_mY 88) ∈ z_TB := z_inH (z_b1 (z_b2 (z_b2 (z_b2 (z_b2 (z_b2 zB_4_56))))))
theorem zw_730 : Cond.instanceMethod (z_mY 88) ∈ z_TB := z_inH (z_b1 (z_b2 (z_b2 (z_b2 (z_b2 (z_b2 (z_b2 zB_4_56)))))))
theorem zw_23 : Cond.selects (z_mY 88).cls (z_mY 88) (z_mY 88) ∈ z_TB := z_inH (z_b1 (z_b2 (z_b2 (z_b2 (z_b2 (z_b2 (z_b2 (z_b2 zB_4_56))))))))
def zB_4_64 := z_b2 (z_b2 (z_b2 (z_b2 (z_b2 (z_b2 (z_b2 (z_b2 zB_4_56)))))))
theorem zw_732 : Cond.methodLink (z_mY 88).cls 82 (z_mY 28) ∈ z_TB := z_inH (z_b1 zB_4_64)
theorem zw_733 : Cond.instanceMethod (z_mY 28) ∈ z_TB := z_inH (z_b1 (z_b2 zB_4_64))
theorem zw_734 : Cond.selects (z_mY 28).cls (z_mY 28) (z_mY 28) ∈ z_TB := z_inH (z_b1 (z_b2 (z_b2 zB_4_64)))
theorem zw_758 : Cond.methodLink (z_mY 92).cls 86 (z_mY 91) ∈ z_TB := z_inH (z_b1 (z_b2 (z_b2 (z_b2 zB_4_64))))
theorem zw_785 : Cond.methodLink (z_mY 95).cls 89 (z_mY 92) ∈ z_TB := z_inH (z_b1 (z_b2 (z_b2 (z_b2 (z_b2 zB_4_64)))))
theorem zw_786 : Cond.methodLink (z_mY 95).cls 92 (z_mY 27) ∈ z_TB := z_inH (z_b1 (z_b2 (z_b2 (z_b2 (z_b2 (z_b2 zB_4_64))))))
theorem zw_787 : Cond.instanceMethod (z_mY 27) ∈ z_TB := z_inH (z_b1 (z_b2 (z_b2 (z_b2 (z_b2 (z_b2 (z_b2 zB_4_64)))))))
theorem zw_788 : Cond.selects (z_mY 27).cls (z_mY 27) (z_mY 27) ∈ z_TB := z_inH (z_b1 (z_b2 (z_b2 (z_b2 (z_b2 (z_b2 (z_b2 (z_b2 zB_4_64))))))))
def zB_4_72 := z_b2 (z_b2 (z_b2 (z_b2 (z_b2 (z_b2 (z_b2 (z_b2 zB_4_64)))))))
theorem zw_794 : Cond.methodLink (z_mY 96).cls 95 (z_mY 24) ∈ z_TB := z_inH (z_b1 zB_4_72)
theorem zw_814 : Cond.methodLink (z_mY 100).cls 98 (z_mY 298) ∈ z_TB := z_inH (z_b1 (z_b2 zB_4_72))
theorem zw_836 : Cond.methodLink (z_mY 100).cls 104 (z_mY 96) ∈ z_TB := z_inH (z_b1 (z_b2 (z_b2 zB_4_72)))
theorem zw_791 : Cond.instanceMethod (z_mY 96) ∈ z_TB := z_inH (z_b1 (z_b2 (z_b2 (z_b2 zB_4_72))))
theorem zw_792 : Cond.selects (z_mY 96).cls (z_mY 96) (z_mY 96) ∈ z_TB := z_inH (z_b1 (z_b2 (z_b2 (z_b2 (z_b2 zB_4_72)))))
theorem zw_1099 : Cond.methodLink (z_mY 101).cls 107 (z_mY 100) ∈ z_TB := z_inH (z_b1 (z_b2 (z_b2 (z_b2 (z_b2 (z_b2 zB_4_72))))))
theorem zw_833 : Cond.instanceMethod (z_mY 100) ∈ z_TB := z_inH (z_b1 (z_b2 (z_b2 (z_b2 (z_b2 (z_b2 (z_b2 zB_4_72)))))))
theorem zw_834 : Cond.selects (z_mY 100).cls (z_mY 100) (z_mY 100) ∈ z_TB := z_inH (z_b1 (z_b2 (z_b2 (z_b2 (z_b2 (z_b2 (z_b2 (z_b2 zB_4_72))))))))
def zB_4_80 := z_b2 (z_b2 (z_b2 (z_b2 (z_b2 (z_b2 (z_b2 (z_b2 zB_4_72)))))))
theorem zw_133 : Cond.initialized "java/lang/Integer" ∈ z_TB := z_inH (z_b1 zB_4_80)
theorem zw_1100 : Cond.methodLink (z_mY 101).cls 111 (z_mY 294) ∈ z_TB := z_inH (z_b1 (z_b2 zB_4_80))
theorem zw_690 : Cond.static (z_mY 294) ∈ z_TB := z_inH (z_b1 (z_b2 (z_b2 zB_4_80)))
theorem zw_819 : Cond.methodLink (z_mY 103).cls 116 (z_mY 94) ∈ z_TB := z_inH (z_b1 (z_b2 (z_b2 (z_b2 zB_4_80))))
theorem zw_778 : Cond.instanceMethod (z_mY 94) ∈ z_TB := z_inH (z_b1 (z_b2 (z_b2 (z_b2 (z_b2 zB_4_80)))))
theorem zw_779 : Cond.selects (z_mY 94).cls (z_mY 94) (z_mY 94) ∈ z_TB := z_inH (z_b1 (z_b2 (z_b2 (z_b2 (z_b2 (z_b2 zB_4_80))))))
theorem zw_252 : Cond.fieldLink (z_mY 103).cls 119 "SlabMap$Slabs" "parts" "I" ∈ z_TB := z_inH (z_b1 (z_b2 (z_b2 (z_b2 (z_b2 (z_b2 (z_b2 zB_4_80)))))))
theorem zw_820 : Cond.methodLink (z_mY 103).cls 122 (z_mY 29) ∈ z_TB := z_inH (z_b1 (z_b2 (z_b2 (z_b2 (z_b2 (z_b2 (z_b2 (z_b2 zB_4_80))))))))
def zB_4_88 := z_b2 (z_b2 (z_b2 (z_b2 (z_b2 (z_b2 (z_b2 (z_b2 zB_4_80)))))))
theorem zw_821 : Cond.instanceMethod (z_mY 29) ∈ z_TB := z_inH (z_b1 zB_4_88)
theorem zw_822 : Cond.selects (z_mY 29).cls (z_mY 29) (z_mY 29) ∈ z_TB := z_inH (z_b1 (z_b2 zB_4_88))
theorem zw_815 : Cond.methodLink (z_mY 105).cls 125 (z_mY 103) ∈ z_TB := z_inH (z_b1 (z_b2 (z_b2 zB_4_88)))
theorem zw_817 : Cond.instanceMethod (z_mY 103) ∈ z_TB := z_inH (z_b1 (z_b2 (z_b2 (z_b2 zB_4_88))))
theorem zw_25 : Cond.selects (z_mY 103).cls (z_mY 103) (z_mY 103) ∈ z_TB := z_inH (z_b1 (z_b2 (z_b2 (z_b2 (z_b2 zB_4_88)))))
theorem zw_824 : Cond.methodLink (z_mY 105).cls 128 (z_mY 104) ∈ z_TB := z_inH (z_b1 (z_b2 (z_b2 (z_b2 (z_b2 (z_b2 zB_4_88))))))
theorem zw_826 : Cond.instanceMethod (z_mY 104) ∈ z_TB := z_inH (z_b1 (z_b2 (z_b2 (z_b2 (z_b2 (z_b2 (z_b2 zB_4_88)))))))
theorem zw_26 : Cond.selects (z_mY 104).cls (z_mY 104) (z_mY 104) ∈ z_TB := z_inH (z_b1 (z_b2 (z_b2 (z_b2 (z_b2 (z_b2 (z_b2 (z_b2 zB_4_88))))))))
def zB_4_96 := z_b2 (z_b2 (z_b2 (z_b2 (z_b2 (z_b2 (z_b2 (z_b2 zB_4_88)))))))
theorem zw_1094 : Cond.methodLink (z_mY 106).cls 131 (z_mY 105) ∈ z_TB := z_inH (z_b1 zB_4_96)
theorem zw_811 : Cond.instanceMethod (z_mY 105) ∈ z_TB := z_inH (z_b1 (z_b2 zB_4_96))
theorem zw_812 : Cond.selects (z_mY 105).cls (z_mY 105) (z_mY 105) ∈ z_TB := z_inH (z_b1 (z_b2 (z_b2 zB_4_96)))
theorem zw_997 : Cond.methodLink (z_mY 108).cls 134 (z_mY 109) ∈ z_TB := z_inH (z_b1 (z_b2 (z_b2 (z_b2 zB_4_96))))
theorem zw_999 : Cond.instanceMethod (z_mY 109) ∈ z_TB := z_inH (z_b1 (z_b2 (z_b2 (z_b2 (z_b2 zB_4_96)))))
theorem zw_34 : Cond.selects (z_mY 109).cls (z_mY 109) (z_mY 109) ∈ z_TB := z_inH (z_b1 (z_b2 (z_b2 (z_b2 (z_b2 (z_b2 zB_4_96))))))
theorem zw_1006 : Cond.methodLink (z_mY 110).cls 141 (z_mY 111) ∈ z_TB := z_inH (z_b1 (z_b2 (z_b2 (z_b2 (z_b2 (z_b2 (z_b2 zB_4_96)))))))
theorem zw_1008 : Cond.instanceMethod (z_mY 111) ∈ z_TB := z_inH (z_b1 (z_b2 (z_b2 (z_b2 (z_b2 (z_b2 (z_b2 (z_b2 zB_4_96))))))))
def zB_4_104 := z_b2 (z_b2 (z_b2 (z_b2 (z_b2 (z_b2 (z_b2 (z_b2 zB_4_96)))))))
theorem zw_35 : Cond.selects (z_mY 111).cls (z_mY 111) (z_mY 111) ∈ z_TB := z_inH (z_b1 zB_4_104)
theorem zw_1010 : Cond.methodLink (z_mY 111).cls 145 (z_mY 112) ∈ z_TB := z_inH (z_b1 (z_b2 zB_4_104))
theorem zw_1012 : Cond.instanceMethod (z_mY 112) ∈ z_TB := z_inH (z_b1 (z_b2 (z_b2 zB_4_104)))
theorem zw_36 : Cond.selects (z_mY 112).cls (z_mY 112) (z_mY 112) ∈ z_TB := z_inH (z_b1 (z_b2 (z_b2 (z_b2 zB_4_104))))
theorem zw_177 : Cond.methodLink (z_mY 113).cls 3 objectInit ∈ z_TB := z_inH (z_b1 (z_b2 (z_b2 (z_b2 (z_b2 zB_4_104)))))
theorem zw_178 : Cond.fieldLink (z_mY 113).cls 11 "SlabMap$Steps" "numbers" "[I" ∈ z_TB := z_inH (z_b1 (z_b2 (z_b2 (z_b2 (z_b2 (z_b2 zB_4_104))))))
theorem zw_666 : Cond.methodLink (z_mY 114).cls 15 arraycopyName ∈ z_TB := z_inH (z_b1 (z_b2 (z_b2 (z_b2 (z_b2 (z_b2 (z_b2 zB_4_104)))))))
theorem zw_181 : Cond.fieldLink (z_mY 114).cls 21 "SlabMap$Steps" "count" "I" ∈ z_TB := z_inH (z_b1 (z_b2 (z_b2 (z_b2 (z_b2 (z_b2 (z_b2 (z_b2 zB_4_104))))))))
def zB_4_112 := z_b2 (z_b2 (z_b2 (z_b2 (z_b2 (z_b2 (z_b2 (z_b2 zB_4_104)))))))
theorem zw_1064 : Cond.constant (z_mY 115).cls 25 (-1000000) ∈ z_TB := z_inH (z_b1 zB_4_112)
theorem zw_152 : Cond.methodLink (z_mY 116).cls 3 objectInit ∈ z_TB := z_inH (z_b1 (z_b2 zB_4_112))
theorem zw_153 : Cond.fieldLink (z_mY 116).cls 9 "SlabMap$Tape" "bytes" "[I" ∈ z_TB := z_inH (z_b1 (z_b2 (z_b2 zB_4_112)))
theorem zw_157 : Cond.fieldLink (z_mY 118).cls 15 "SlabMap$Tape" "length" "I" ∈ z_TB := z_inH (z_b1 (z_b2 (z_b2 (z_b2 zB_4_112))))
theorem zw_144 : Cond.methodLink (z_mY 119).cls 3 objectInit ∈ z_TB := z_inH (z_b1 (z_b2 (z_b2 (z_b2 (z_b2 zB_4_112)))))
theorem zw_147 : Cond.classLink (z_mY 119).cls 9 "SlabMap$Tape" ∈ z_TB := z_inH (z_b1 (z_b2 (z_b2 (z_b2 (z_b2 (z_b2 zB_4_112))))))
theorem zw_148 : Cond.instantiable "SlabMap$Tape" 2 ∈ z_TB := z_inH (z_b1 (z_b2 (z_b2 (z_b2 (z_b2 (z_b2 (z_b2 zB_4_112)))))))
theorem zw_118 : Cond.initialized "SlabMap$Tape" ∈ z_TB := z_inH (z_b1 (z_b2 (z_b2 (z_b2 (z_b2 (z_b2 (z_b2 (z_b2 zB_4_112))))))))
def zB_4_120 := z_b2 (z_b2 (z_b2 (z_b2 (z_b2 (z_b2 (z_b2 (z_b2 zB_4_112)))))))
theorem zw_150 : Cond.instanceMethod (z_mY 116) ∈ z_TB := z_inH (z_b1 zB_4_120)
theorem zw_380 : Cond.fieldLink (z_mY 119).cls 12 "SlabMap" "tape" "LSlabMap$Tape;" ∈ z_TB := z_inH (z_b1 (z_b2 zB_4_120))
theorem zw_164 : Cond.classLink (z_mY 119).cls 16 "SlabMap$Reader" ∈ z_TB := z_inH (z_b1 (z_b2 (z_b2 zB_4_120)))
theorem zw_165 : Cond.instantiable "SlabMap$Reader" 7 ∈ z_TB := z_inH (z_b1 (z_b2 (z_b2 (z_b2 zB_4_120))))
theorem zw_166 : Cond.methodLink (z_mY 119).cls 18 (z_mY 66) ∈ z_TB := z_inH (z_b1 (z_b2 (z_b2 (z_b2 (z_b2 zB_4_120)))))
theorem zw_167 : Cond.instanceMethod (z_mY 66) ∈ z_TB := z_inH (z_b1 (z_b2 (z_b2 (z_b2 (z_b2 (z_b2 zB_4_120))))))
theorem zw_381 : Cond.fieldLink (z_mY 119).cls 21 "SlabMap" "reader" "LSlabMap$Reader;" ∈ z_TB := z_inH (z_b1 (z_b2 (z_b2 (z_b2 (z_b2 (z_b2 (z_b2 zB_4_120)))))))
theorem zw_382 : Cond.fieldLink (z_mY 119).cls 25 "SlabMap" "names" "[I" ∈ z_TB := z_inH (z_b1 (z_b2 (z_b2 (z_b2 (z_b2 (z_b2 (z_b2 (z_b2 zB_4_120))))))))
def zB_4_128 := z_b2 (z_b2 (z_b2 (z_b2 (z_b2 (z_b2 (z_b2 (z_b2 zB_4_120)))))))
theorem zw_215 : Cond.classLink (z_mY 119).cls 29 "SlabMap$Steps" ∈ z_TB := z_inH (z_b1 zB_4_128)
theorem zw_383 : Cond.fieldLink (z_mY 119).cls 31 "SlabMap" "scripts" "[LSlabMap$Steps;" ∈ z_TB := z_inH (z_b1 (z_b2 zB_4_128))
theorem zw_217 : Cond.classLink (z_mY 119).cls 35 "SlabMap$Edges" ∈ z_TB := z_inH (z_b1 (z_b2 (z_b2 zB_4_128)))
theorem zw_218 : Cond.instantiable "SlabMap$Edges" 2 ∈ z_TB := z_inH (z_b1 (z_b2 (z_b2 (z_b2 zB_4_128))))
theorem zw_219 : Cond.methodLink (z_mY 119).cls 37 (z_mY 15) ∈ z_TB := z_inH (z_b1 (z_b2 (z_b2 (z_b2 (z_b2 zB_4_128)))))
theorem zw_220 : Cond.instanceMethod (z_mY 15) ∈ z_TB := z_inH (z_b1 (z_b2 (z_b2 (z_b2 (z_b2 (z_b2 zB_4_128))))))
theorem zw_386 : Cond.fieldLink (z_mY 119).cls 38 "SlabMap" "now" "LSlabMap$Edges;" ∈ z_TB := z_inH (z_b1 (z_b2 (z_b2 (z_b2 (z_b2 (z_b2 (z_b2 zB_4_128)))))))
theorem zw_235 : Cond.classLink (z_mY 119).cls 42 "SlabMap$Slabs" ∈ z_TB := z_inH (z_b1 (z_b2 (z_b2 (z_b2 (z_b2 (z_b2 (z_b2 (z_b2 zB_4_128))))))))
def zB_4_136 := z_b2 (z_b2 (z_b2 (z_b2 (z_b2 (z_b2 (z_b2 (z_b2 zB_4_128)))))))
theorem zw_236 : Cond.instantiable "SlabMap$Slabs" 11 ∈ z_TB := z_inH (z_b1 zB_4_136)
theorem zw_237 : Cond.methodLink (z_mY 119).cls 44 (z_mY 85) ∈ z_TB := z_inH (z_b1 (z_b2 zB_4_136))
theorem zw_238 : Cond.instanceMethod (z_mY 85) ∈ z_TB := z_inH (z_b1 (z_b2 (z_b2 zB_4_136)))
theorem zw_387 : Cond.fieldLink (z_mY 119).cls 47 "SlabMap" "nowSlabs" "LSlabMap$Slabs;" ∈ z_TB := z_inH (z_b1 (z_b2 (z_b2 (z_b2 zB_4_136))))
theorem zw_388 : Cond.fieldLink (z_mY 119).cls 51 "SlabMap" "other" "LSlabMap$Edges;" ∈ z_TB := z_inH (z_b1 (z_b2 (z_b2 (z_b2 (z_b2 zB_4_136)))))
theorem zw_389 : Cond.fieldLink (z_mY 119).cls 54 "SlabMap" "otherSlabs" "LSlabMap$Slabs;" ∈ z_TB := z_inH (z_b1 (z_b2 (z_b2 (z_b2 (z_b2 (z_b2 zB_4_136))))))
theorem zw_278 : Cond.classLink (z_mY 119).cls 57 "SlabMap$History" ∈ z_TB := z_inH (z_b1 (z_b2 (z_b2 (z_b2 (z_b2 (z_b2 (z_b2 zB_4_136)))))))
theorem zw_279 : Cond.instantiable "SlabMap$History" 3 ∈ z_TB := z_inH (z_b1 (z_b2 (z_b2 (z_b2 (z_b2 (z_b2 (z_b2 (z_b2 zB_4_136))))))))
def zB_4_144 := z_b2 (z_b2 (z_b2 (z_b2 (z_b2 (z_b2 (z_b2 (z_b2 zB_4_136)))))))
theorem zw_281 : Cond.instanceMethod (z_mY 54) ∈ z_TB := z_inH (z_b1 zB_4_144)
theorem zw_390 : Cond.fieldLink (z_mY 119).cls 60 "SlabMap" "history" "LSlabMap$History;" ∈ z_TB := z_inH (z_b1 (z_b2 zB_4_144))
theorem zw_295 : Cond.classLink (z_mY 119).cls 64 "SlabMap$Log" ∈ z_TB := z_inH (z_b1 (z_b2 (z_b2 zB_4_144)))
theorem zw_296 : Cond.instantiable "SlabMap$Log" 2 ∈ z_TB := z_inH (z_b1 (z_b2 (z_b2 (z_b2 zB_4_144))))
theorem zw_298 : Cond.instanceMethod (z_mY 59) ∈ z_TB := z_inH (z_b1 (z_b2 (z_b2 (z_b2 (z_b2 zB_4_144)))))
theorem zw_391 : Cond.fieldLink (z_mY 119).cls 67 "SlabMap" "log" "LSlabMap$Log;" ∈ z_TB := z_inH (z_b1 (z_b2 (z_b2 (z_b2 (z_b2 (z_b2 zB_4_144))))))
theorem zw_393 : Cond.fieldLink (z_mY 119).cls 71 "SlabMap" "image" "LSlabMap$Edges;" ∈ z_TB := z_inH (z_b1 (z_b2 (z_b2 (z_b2 (z_b2 (z_b2 (z_b2 zB_4_144)))))))
theorem zw_394 : Cond.fieldLink (z_mY 119).cls 74 "SlabMap" "imageLog" "LSlabMap$Log;" ∈ z_TB := z_inH (z_b1 (z_b2 (z_b2 (z_b2 (z_b2 (z_b2 (z_b2 (z_b2 zB_4_144))))))))
def zB_4_152 := z_b2 (z_b2 (z_b2 (z_b2 (z_b2 (z_b2 (z_b2 (z_b2 zB_4_144)))))))
theorem zw_395 : Cond.fieldLink (z_mY 119).cls 77 "SlabMap" "status" "[I" ∈ z_TB := z_inH (z_b1 zB_4_152)
theorem zw_308 : Cond.classLink (z_mY 119).cls 80 "SlabMap$Act" ∈ z_TB := z_inH (z_b1 (z_b2 zB_4_152))
theorem zw_309 : Cond.instantiable "SlabMap$Act" 7 ∈ z_TB := z_inH (z_b1 (z_b2 (z_b2 zB_4_152)))
theorem zw_311 : Cond.instanceMethod (z_mY 0) ∈ z_TB := z_inH (z_b1 (z_b2 (z_b2 (z_b2 zB_4_152))))
theorem zw_396 : Cond.fieldLink (z_mY 119).cls 83 "SlabMap" "act" "LSlabMap$Act;" ∈ z_TB := z_inH (z_b1 (z_b2 (z_b2 (z_b2 (z_b2 zB_4_152)))))
theorem zw_344 : Cond.classLink (z_mY 119).cls 87 "SlabMap$Ends" ∈ z_TB := z_inH (z_b1 (z_b2 (z_b2 (z_b2 (z_b2 (z_b2 zB_4_152))))))
theorem zw_345 : Cond.instantiable "SlabMap$Ends" 5 ∈ z_TB := z_inH (z_b1 (z_b2 (z_b2 (z_b2 (z_b2 (z_b2 (z_b2 zB_4_152)))))))
theorem zw_347 : Cond.instanceMethod (z_mY 49) ∈ z_TB := z_inH (z_b1 (z_b2 (z_b2 (z_b2 (z_b2 (z_b2 (z_b2 (z_b2 zB_4_152))))))))
def zB_4_160 := z_b2 (z_b2 (z_b2 (z_b2 (z_b2 (z_b2 (z_b2 (z_b2 zB_4_152)))))))
theorem zw_397 : Cond.fieldLink (z_mY 119).cls 90 "SlabMap" "ends" "LSlabMap$Ends;" ∈ z_TB := z_inH (z_b1 zB_4_160)
theorem zw_366 : Cond.classLink (z_mY 119).cls 94 "SlabMap$Colours" ∈ z_TB := z_inH (z_b1 (z_b2 zB_4_160))
theorem zw_367 : Cond.instantiable "SlabMap$Colours" 2 ∈ z_TB := z_inH (z_b1 (z_b2 (z_b2 zB_4_160)))
theorem zw_369 : Cond.instanceMethod (z_mY 8) ∈ z_TB := z_inH (z_b1 (z_b2 (z_b2 (z_b2 zB_4_160))))
theorem zw_398 : Cond.fieldLink (z_mY 119).cls 97 "SlabMap" "colours" "LSlabMap$Colours;" ∈ z_TB := z_inH (z_b1 (z_b2 (z_b2 (z_b2 (z_b2 zB_4_160)))))
theorem zw_442 : Cond.methodLink (z_mY 120).cls 101 (z_mY 117) ∈ z_TB := z_inH (z_b1 (z_b2 (z_b2 (z_b2 (z_b2 (z_b2 zB_4_160))))))
theorem zw_443 : Cond.static (z_mY 117) ∈ z_TB := z_inH (z_b1 (z_b2 (z_b2 (z_b2 (z_b2 (z_b2 (z_b2 zB_4_160)))))))
theorem zw_156 : Cond.fieldLink (z_mY 120).cls 105 "SlabMap$Tape" "length" "I" ∈ z_TB := z_inH (z_b1 (z_b2 (z_b2 (z_b2 (z_b2 (z_b2 (z_b2 (z_b2 zB_4_160))))))))
def zB_4_168 := z_b2 (z_b2 (z_b2 (z_b2 (z_b2 (z_b2 (z_b2 (z_b2 zB_4_160)))))))
theorem zw_445 : Cond.methodLink (z_mY 120).cls 109 (z_mY 118) ∈ z_TB := z_inH (z_b1 zB_4_168)
theorem zw_446 : Cond.instanceMethod (z_mY 118) ∈ z_TB := z_inH (z_b1 (z_b2 zB_4_168))
theorem zw_447 : Cond.selects (z_mY 118).cls (z_mY 118) (z_mY 118) ∈ z_TB := z_inH (z_b1 (z_b2 (z_b2 zB_4_168)))
theorem zw_457 : Cond.methodLink (z_mY 122).cls 113 (z_mY 67) ∈ z_TB := z_inH (z_b1 (z_b2 (z_b2 (z_b2 zB_4_168))))
theorem zw_458 : Cond.instanceMethod (z_mY 67) ∈ z_TB := z_inH (z_b1 (z_b2 (z_b2 (z_b2 (z_b2 zB_4_168)))))
theorem zw_459 : Cond.selects (z_mY 67).cls (z_mY 67) (z_mY 67) ∈ z_TB := z_inH (z_b1 (z_b2 (z_b2 (z_b2 (z_b2 (z_b2 zB_4_168))))))
theorem zw_515 : Cond.methodLink (z_mY 122).cls 117 (z_mY 68) ∈ z_TB := z_inH (z_b1 (z_b2 (z_b2 (z_b2 (z_b2 (z_b2 (z_b2 zB_4_168)))))))
theorem zw_516 : Cond.instanceMethod (z_mY 68) ∈ z_TB := z_inH (z_b1 (z_b2 (z_b2 (z_b2 (z_b2 (z_b2 (z_b2 (z_b2 zB_4_168))))))))
def zB_4_176 := z_b2 (z_b2 (z_b2 (z_b2 (z_b2 (z_b2 (z_b2 (z_b2 zB_4_168)))))))
theorem zw_517 : Cond.selects (z_mY 68).cls (z_mY 68) (z_mY 68) ∈ z_TB := z_inH (z_b1 zB_4_176)
theorem zw_531 : Cond.methodLink (z_mY 123).cls 120 (z_mY 124) ∈ z_TB := z_inH (z_b1 (z_b2 zB_4_176))
theorem zw_533 : Cond.instanceMethod (z_mY 124) ∈ z_TB := z_inH (z_b1 (z_b2 (z_b2 zB_4_176)))
theorem zw_12 : Cond.selects (z_mY 124).cls (z_mY 124) (z_mY 124) ∈ z_TB := z_inH (z_b1 (z_b2 (z_b2 (z_b2 zB_4_176))))
theorem zw_657 : Cond.methodLink (z_mY 123).cls 123 (z_mY 125) ∈ z_TB := z_inH (z_b1 (z_b2 (z_b2 (z_b2 (z_b2 zB_4_176)))))
theorem zw_659 : Cond.instanceMethod (z_mY 125) ∈ z_TB := z_inH (z_b1 (z_b2 (z_b2 (z_b2 (z_b2 (z_b2 zB_4_176))))))
theorem zw_19 : Cond.selects (z_mY 125).cls (z_mY 125) (z_mY 125) ∈ z_TB := z_inH (z_b1 (z_b2 (z_b2 (z_b2 (z_b2 (z_b2 (z_b2 zB_4_176)))))))
theorem zw_385 : Cond.fieldLink (z_mY 124).cls 126 "SlabMap" "hasMap" "Z" ∈ z_TB := z_inH (z_b1 (z_b2 (z_b2 (z_b2 (z_b2 (z_b2 (z_b2 (z_b2 zB_4_176))))))))
def zB_4_184 := z_b2 (z_b2 (z_b2 (z_b2 (z_b2 (z_b2 (z_b2 (z_b2 zB_4_176)))))))
theorem zw_392 : Cond.fieldLink (z_mY 124).cls 130 "SlabMap" "hasImage" "Z" ∈ z_TB := z_inH (z_b1 zB_4_184)
theorem zw_535 : Cond.methodLink (z_mY 124).cls 133 (z_mY 55) ∈ z_TB := z_inH (z_b1 (z_b2 zB_4_184))
theorem zw_536 : Cond.instanceMethod (z_mY 55) ∈ z_TB := z_inH (z_b1 (z_b2 (z_b2 zB_4_184)))
theorem zw_537 : Cond.selects (z_mY 55).cls (z_mY 55) (z_mY 55) ∈ z_TB := z_inH (z_b1 (z_b2 (z_b2 (z_b2 zB_4_184))))
theorem zw_539 : Cond.methodLink (z_mY 124).cls 136 (z_mY 60) ∈ z_TB := z_inH (z_b1 (z_b2 (z_b2 (z_b2 (z_b2 zB_4_184)))))
theorem zw_540 : Cond.instanceMethod (z_mY 60) ∈ z_TB := z_inH (z_b1 (z_b2 (z_b2 (z_b2 (z_b2 (z_b2 zB_4_184))))))
theorem zw_541 : Cond.selects (z_mY 60).cls (z_mY 60) (z_mY 60) ∈ z_TB := z_inH (z_b1 (z_b2 (z_b2 (z_b2 (z_b2 (z_b2 (z_b2 zB_4_184)))))))
theorem zw_194 : Cond.fieldLink (z_mY 124).cls 137 "SlabMap$Reader" "names" "[I" ∈ z_TB := z_inH (z_b1 (z_b2 (z_b2 (z_b2 (z_b2 (z_b2 (z_b2 (z_b2 zB_4_184))))))))
def zB_4_192 := z_b2 (z_b2 (z_b2 (z_b2 (z_b2 (z_b2 (z_b2 (z_b2 zB_4_184)))))))
theorem zw_543 : Cond.methodLink (z_mY 124).cls 138 arraycopyName ∈ z_TB := z_inH (z_b1 zB_4_192)
theorem zw_546 : Cond.methodLink (z_mY 124).cls 144 (z_mY 16) ∈ z_TB := z_inH (z_b1 (z_b2 zB_4_192))
theorem zw_547 : Cond.instanceMethod (z_mY 16) ∈ z_TB := z_inH (z_b1 (z_b2 (z_b2 zB_4_192)))
theorem zw_548 : Cond.selects (z_mY 16).cls (z_mY 16) (z_mY 16) ∈ z_TB := z_inH (z_b1 (z_b2 (z_b2 (z_b2 zB_4_192))))
theorem zw_242 : Cond.fieldLink (z_mY 124).cls 145 "SlabMap$Slabs" "stale" "Z" ∈ z_TB := z_inH (z_b1 (z_b2 (z_b2 (z_b2 (z_b2 zB_4_192)))))
theorem zw_192 : Cond.fieldLink (z_mY 124).cls 148 "SlabMap$Reader" "edgeCount" "I" ∈ z_TB := z_inH (z_b1 (z_b2 (z_b2 (z_b2 (z_b2 (z_b2 zB_4_192))))))
theorem zw_190 : Cond.fieldLink (z_mY 124).cls 151 "SlabMap$Reader" "edges" "[I" ∈ z_TB := z_inH (z_b1 (z_b2 (z_b2 (z_b2 (z_b2 (z_b2 (z_b2 zB_4_192)))))))
theorem zw_550 : Cond.fieldLink (z_mY 124).cls 154 "SlabMap" "NUMBERS_OF_SORT" "[I" ∈ z_TB := z_inH (z_b1 (z_b2 (z_b2 (z_b2 (z_b2 (z_b2 (z_b2 (z_b2 zB_4_192))))))))
