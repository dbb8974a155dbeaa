theorem zc_6 : ∀ m, z_ce m 6 3 := fun _ => ⟨z_inT (i := 554) (by decide +kernel) (by decide +kernel), by decide +kernel, by decide +kernel⟩
theorem zy_6 : plainName (z_mY 6).cls = true ∧ (6 : Nat) ≠ 128 ∧ (6 : Nat) ≠ 299 := ⟨by decide +kernel, by decide, by decide⟩
theorem zcl_6 : z_cls[0]? = some ((z_mY 6).cls, TX0, 7) := rfl
theorem zc_1 : ∀ m, z_ce m 1 5 := fun _ => ⟨z_inT (i := 559) (by decide +kernel) (by decide +kernel), by decide +kernel, by decide +kernel⟩
theorem zy_1 : plainName (z_mY 1).cls = true ∧ (1 : Nat) ≠ 128 ∧ (1 : Nat) ≠ 299 := ⟨by decide +kernel, by decide, by decide⟩
theorem zcl_1 : z_cls[0]? = some ((z_mY 1).cls, TX0, 7) := rfl
theorem zc_2 : ∀ m, z_ce m 2 1 := fun _ => ⟨z_inT (i := 563) (by decide +kernel) (by decide +kernel), by decide +kernel, by decide +kernel⟩
theorem zy_2 : plainName (z_mY 2).cls = true ∧ (2 : Nat) ≠ 128 ∧ (2 : Nat) ≠ 299 := ⟨by decide +kernel, by decide, by decide⟩
theorem zcl_2 : z_cls[0]? = some ((z_mY 2).cls, TX0, 7) := rfl
theorem zc_3 : ∀ m, z_ce m 3 2 := fun _ => ⟨z_inT (i := 567) (by decide +kernel) (by decide +kernel), by decide +kernel, by decide +kernel⟩
theorem zy_3 : plainName (z_mY 3).cls = true ∧ (3 : Nat) ≠ 128 ∧ (3 : Nat) ≠ 299 := ⟨by decide +kernel, by decide, by decide⟩
theorem zcl_3 : z_cls[0]? = some ((z_mY 3).cls, TX0, 7) := rfl
theorem zc_4 : ∀ m, z_ce m 4 2 := fun _ => ⟨z_inT (i := 571) (by decide +kernel) (by decide +kernel), by decide +kernel, by decide +kernel⟩
theorem zy_4 : plainName (z_mY 4).cls = true ∧ (4 : Nat) ≠ 128 ∧ (4 : Nat) ≠ 299 := ⟨by decide +kernel, by decide, by decide⟩
theorem zcl_4 : z_cls[0]? = some ((z_mY 4).cls, TX0, 7) := rfl
theorem zc_11 : ∀ m, z_ce m 11 5 := fun _ => ⟨z_inT (i := 847) (by decide +kernel) (by decide +kernel), by decide +kernel, by decide +kernel⟩
theorem zy_11 : plainName (z_mY 11).cls = true ∧ (11 : Nat) ≠ 128 ∧ (11 : Nat) ≠ 299 := ⟨by decide +kernel, by decide, by decide⟩
theorem zc_167 : ∀ m, z_ce m 167 1 := fun _ => ⟨z_inT (i := 585) (by decide +kernel) (by decide +kernel), by decide +kernel, by decide +kernel⟩
theorem zy_167 : plainName (z_mY 167).cls = true ∧ (167 : Nat) ≠ 128 ∧ (167 : Nat) ≠ 299 := ⟨by decide +kernel, by decide, by decide⟩
theorem zc_12 : ∀ m, z_ce m 12 4 := fun _ => ⟨z_inT (i := 850) (by decide +kernel) (by decide +kernel), by decide +kernel, by decide +kernel⟩
theorem zy_12 : plainName (z_mY 12).cls = true ∧ (12 : Nat) ≠ 128 ∧ (12 : Nat) ≠ 299 := ⟨by decide +kernel, by decide, by decide⟩
theorem zw_851 : Cond.methodLink (z_mY 11).cls 31 Lib.Math.max.name ∈ z_TB := z_inT (i := 851) (by decide +kernel) (by decide +kernel)
theorem zw_621 : Cond.static Lib.Math.max.name ∈ z_TB := z_inT (i := 621) (by decide +kernel) (by decide +kernel)
theorem zw_622 : Cond.code Lib.Math.max.name Lib.Math.max.code 2 (some .int) ∈ z_TB := z_inT (i := 622) (by decide +kernel) (by decide +kernel)
theorem zc_298 : ∀ m, z_ce m 298 2 := fun _ => ⟨z_inT (i := 225) (by decide +kernel) (by decide +kernel), by decide +kernel, by decide +kernel⟩
theorem zy_298 : plainName (z_mY 298).cls = true ∧ (298 : Nat) ≠ 128 ∧ (298 : Nat) ≠ 299 := ⟨by decide +kernel, by decide, by decide⟩
theorem zc_19 : ∀ m, z_ce m 19 1 := fun _ => ⟨z_inT (i := 593) (by decide +kernel) (by decide +kernel), by decide +kernel, by decide +kernel⟩
theorem zy_19 : plainName (z_mY 19).cls = true ∧ (19 : Nat) ≠ 128 ∧ (19 : Nat) ≠ 299 := ⟨by decide +kernel, by decide, by decide⟩
theorem zcl_19 : z_cls[3]? = some ((z_mY 19).cls, TX3, 2) := rfl
theorem zc_26 : ∀ m, z_ce m 26 2 := fun _ => ⟨z_inT (i := 739) (by decide +kernel) (by decide +kernel), by decide +kernel, by decide +kernel⟩
theorem zy_26 : plainName (z_mY 26).cls = true ∧ (26 : Nat) ≠ 128 ∧ (26 : Nat) ≠ 299 := ⟨by decide +kernel, by decide, by decide⟩
theorem zcl_26 : z_cls[3]? = some ((z_mY 26).cls, TX3, 2) := rfl
theorem zc_25 : ∀ m, z_ce m 25 1 := fun _ => ⟨z_inT (i := 743) (by decide +kernel) (by decide +kernel), by decide +kernel, by decide +kernel⟩
theorem zy_25 : plainName (z_mY 25).cls = true ∧ (25 : Nat) ≠ 128 ∧ (25 : Nat) ≠ 299 := ⟨by decide +kernel, by decide, by decide⟩
theorem zcl_25 : z_cls[3]? = some ((z_mY 25).cls, TX3, 2) := rfl
theorem zc_20 : ∀ m, z_ce m 20 1 := fun _ => ⟨z_inT (i := 601) (by decide +kernel) (by decide +kernel), by decide +kernel, by decide +kernel⟩
theorem zy_20 : plainName (z_mY 20).cls = true ∧ (20 : Nat) ≠ 128 ∧ (20 : Nat) ≠ 299 := ⟨by decide +kernel, by decide, by decide⟩
theorem zcl_20 : z_cls[3]? = some ((z_mY 20).cls, TX3, 2) := rfl
theorem zc_21 : ∀ m, z_ce m 21 1 := fun _ => ⟨z_inT (i := 605) (by decide +kernel) (by decide +kernel), by decide +kernel, by decide +kernel⟩
theorem zy_21 : plainName (z_mY 21).cls = true ∧ (21 : Nat) ≠ 128 ∧ (21 : Nat) ≠ 299 := ⟨by decide +kernel, by decide, by decide⟩
theorem zcl_21 : z_cls[3]? = some ((z_mY 21).cls, TX3, 2) := rfl
theorem zc_22 : ∀ m, z_ce m 22 1 := fun _ => ⟨z_inT (i := 609) (by decide +kernel) (by decide +kernel), by decide +kernel, by decide +kernel⟩
theorem zy_22 : plainName (z_mY 22).cls = true ∧ (22 : Nat) ≠ 128 ∧ (22 : Nat) ≠ 299 := ⟨by decide +kernel, by decide, by decide⟩
theorem zcl_22 : z_cls[3]? = some ((z_mY 22).cls, TX3, 2) := rfl
theorem zc_23 : ∀ m, z_ce m 23 1 := fun _ => ⟨z_inT (i := 613) (by decide +kernel) (by decide +kernel), by decide +kernel, by decide +kernel⟩
theorem zy_23 : plainName (z_mY 23).cls = true ∧ (23 : Nat) ≠ 128 ∧ (23 : Nat) ≠ 299 := ⟨by decide +kernel, by decide, by decide⟩
theorem zcl_23 : z_cls[3]? = some ((z_mY 23).cls, TX3, 2) := rfl
theorem zc_33 : ∀ m, z_ce m 33 6 := fun _ => ⟨z_inT (i := 616) (by decide +kernel) (by decide +kernel), by decide +kernel, by decide +kernel⟩
theorem zy_33 : plainName (z_mY 33).cls = true ∧ (33 : Nat) ≠ 128 ∧ (33 : Nat) ≠ 299 := ⟨by decide +kernel, by decide, by decide⟩
theorem zw_617 : Cond.methodLink (z_mY 31).cls 59 Lib.Math.min.name ∈ z_TB := z_inT (i := 617) (by decide +kernel) (by decide +kernel)
theorem zw_618 : Cond.static Lib.Math.min.name ∈ z_TB := z_inT (i := 618) (by decide +kernel) (by decide +kernel)
theorem zw_619 : Cond.code Lib.Math.min.name Lib.Math.min.code 2 (some .int) ∈ z_TB := z_inT (i := 619) (by decide +kernel) (by decide +kernel)
theorem zw_620 : Cond.methodLink (z_mY 31).cls 64 Lib.Math.max.name ∈ z_TB := z_inT (i := 620) (by decide +kernel) (by decide +kernel)
theorem zc_32 : ∀ m, z_ce m 32 2 := fun _ => ⟨z_inT (i := 625) (by decide +kernel) (by decide +kernel), by decide +kernel, by decide +kernel⟩
theorem zy_32 : plainName (z_mY 32).cls = true ∧ (32 : Nat) ≠ 128 ∧ (32 : Nat) ≠ 299 := ⟨by decide +kernel, by decide, by decide⟩
theorem zc_31 : ∀ m, z_ce m 31 5 := fun _ => ⟨z_inT (i := 597) (by decide +kernel) (by decide +kernel), by decide +kernel, by decide +kernel⟩
theorem zy_31 : plainName (z_mY 31).cls = true ∧ (31 : Nat) ≠ 128 ∧ (31 : Nat) ≠ 299 := ⟨by decide +kernel, by decide, by decide⟩
theorem zcl_31 : z_cls[3]? = some ((z_mY 31).cls, TX3, 2) := rfl
theorem zc_36 : ∀ m, z_ce m 36 1 := fun _ => ⟨z_inT (i := 579) (by decide +kernel) (by decide +kernel), by decide +kernel, by decide +kernel⟩
theorem zy_36 : plainName (z_mY 36).cls = true ∧ (36 : Nat) ≠ 128 ∧ (36 : Nat) ≠ 299 := ⟨by decide +kernel, by decide, by decide⟩
theorem zcl_36 : z_cls[3]? = some ((z_mY 36).cls, TX3, 2) := rfl
theorem zc_37 : ∀ m, z_ce m 37 1 := fun _ => ⟨z_inT (i := 629) (by decide +kernel) (by decide +kernel), by decide +kernel, by decide +kernel⟩
theorem zy_37 : plainName (z_mY 37).cls = true ∧ (37 : Nat) ≠ 128 ∧ (37 : Nat) ≠ 299 := ⟨by decide +kernel, by decide, by decide⟩
theorem zcl_37 : z_cls[3]? = some ((z_mY 37).cls, TX3, 2) := rfl
theorem zc_38 : ∀ m, z_ce m 38 1 := fun _ => ⟨z_inT (i := 637) (by decide +kernel) (by decide +kernel), by decide +kernel, by decide +kernel⟩
theorem zy_38 : plainName (z_mY 38).cls = true ∧ (38 : Nat) ≠ 128 ∧ (38 : Nat) ≠ 299 := ⟨by decide +kernel, by decide, by decide⟩
theorem zcl_38 : z_cls[3]? = some ((z_mY 38).cls, TX3, 2) := rfl
theorem zc_166 : ∀ m, z_ce m 166 2 := fun _ => ⟨z_inT (i := 582) (by decide +kernel) (by decide +kernel), by decide +kernel, by decide +kernel⟩
theorem zy_166 : plainName (z_mY 166).cls = true ∧ (166 : Nat) ≠ 128 ∧ (166 : Nat) ≠ 299 := ⟨by decide +kernel, by decide, by decide⟩
theorem zc_34 : ∀ m, z_ce m 34 4 := fun _ => ⟨z_inT (i := 589) (by decide +kernel) (by decide +kernel), by decide +kernel, by decide +kernel⟩
theorem zy_34 : plainName (z_mY 34).cls = true ∧ (34 : Nat) ≠ 128 ∧ (34 : Nat) ≠ 299 := ⟨by decide +kernel, by decide, by decide⟩
theorem zcl_34 : z_cls[3]? = some ((z_mY 34).cls, TX3, 2) := rfl
theorem zc_24 : ∀ m, z_ce m 24 1 := fun _ => ⟨z_inT (i := 633) (by decide +kernel) (by decide +kernel), by decide +kernel, by decide +kernel⟩
theorem zy_24 : plainName (z_mY 24).cls = true ∧ (24 : Nat) ≠ 128 ∧ (24 : Nat) ≠ 299 := ⟨by decide +kernel, by decide, by decide⟩
theorem zcl_24 : z_cls[3]? = some ((z_mY 24).cls, TX3, 2) := rfl
theorem zc_39 : ∀ m, z_ce m 39 1 := fun _ => ⟨z_inT (i := 640) (by decide +kernel) (by decide +kernel), by decide +kernel, by decide +kernel⟩
theorem zy_39 : plainName (z_mY 39).cls = true ∧ (39 : Nat) ≠ 128 ∧ (39 : Nat) ≠ 299 := ⟨by decide +kernel, by decide, by decide⟩
theorem zc_41 : ∀ m, z_ce m 41 1 := fun _ => ⟨z_inT (i := 648) (by decide +kernel) (by decide +kernel), by decide +kernel, by decide +kernel⟩
theorem zy_41 : plainName (z_mY 41).cls = true ∧ (41 : Nat) ≠ 128 ∧ (41 : Nat) ≠ 299 := ⟨by decide +kernel, by decide, by decide⟩
theorem zcl_41 : z_cls[3]? = some ((z_mY 41).cls, TX3, 2) := rfl
theorem zc_42 : ∀ m, z_ce m 42 2 := fun _ => ⟨z_inT (i := 652) (by decide +kernel) (by decide +kernel), by decide +kernel, by decide +kernel⟩
theorem zy_42 : plainName (z_mY 42).cls = true ∧ (42 : Nat) ≠ 128 ∧ (42 : Nat) ≠ 299 := ⟨by decide +kernel, by decide, by decide⟩
theorem zcl_42 : z_cls[3]? = some ((z_mY 42).cls, TX3, 2) := rfl
theorem zc_43 : ∀ m, z_ce m 43 1 := fun _ => ⟨z_inT (i := 656) (by decide +kernel) (by decide +kernel), by decide +kernel, by decide +kernel⟩
theorem zy_43 : plainName (z_mY 43).cls = true ∧ (43 : Nat) ≠ 128 ∧ (43 : Nat) ≠ 299 := ⟨by decide +kernel, by decide, by decide⟩
theorem zcl_43 : z_cls[3]? = some ((z_mY 43).cls, TX3, 2) := rfl
theorem zc_44 : ∀ m, z_ce m 44 0 := fun _ => ⟨z_inT (i := 678) (by decide +kernel) (by decide +kernel), by decide +kernel, by decide +kernel⟩
theorem zy_44 : plainName (z_mY 44).cls = true ∧ (44 : Nat) ≠ 128 ∧ (44 : Nat) ≠ 299 := ⟨by decide +kernel, by decide, by decide⟩
theorem zcl_44 : z_cls[3]? = some ((z_mY 44).cls, TX3, 2) := rfl
theorem zc_295 : ∀ m, z_ce m 295 1 := fun _ => ⟨z_inT (i := 681) (by decide +kernel) (by decide +kernel), by decide +kernel, by decide +kernel⟩
theorem zy_295 : plainName (z_mY 295).cls = true ∧ (295 : Nat) ≠ 128 ∧ (295 : Nat) ≠ 299 := ⟨by decide +kernel, by decide, by decide⟩
theorem zc_53 : ∀ m, z_ce m 53 2 := fun _ => ⟨z_inT (i := 978) (by decide +kernel) (by decide +kernel), by decide +kernel, by decide +kernel⟩
theorem zy_53 : plainName (z_mY 53).cls = true ∧ (53 : Nat) ≠ 128 ∧ (53 : Nat) ≠ 299 := ⟨by decide +kernel, by decide, by decide⟩
theorem zcl_53 : z_cls[4]? = some ((z_mY 53).cls, TX4, 5) := rfl
theorem zc_51 : ∀ m, z_ce m 51 2 := fun _ => ⟨z_inT (i := 982) (by decide +kernel) (by decide +kernel), by decide +kernel, by decide +kernel⟩
theorem zy_51 : plainName (z_mY 51).cls = true ∧ (51 : Nat) ≠ 128 ∧ (51 : Nat) ≠ 299 := ⟨by decide +kernel, by decide, by decide⟩
theorem zcl_51 : z_cls[4]? = some ((z_mY 51).cls, TX4, 5) := rfl
theorem zc_91 : ∀ m, z_ce m 91 1 := fun _ => ⟨z_inT (i := 749) (by decide +kernel) (by decide +kernel), by decide +kernel, by decide +kernel⟩
theorem zy_91 : plainName (z_mY 91).cls = true ∧ (91 : Nat) ≠ 128 ∧ (91 : Nat) ≠ 299 := ⟨by decide +kernel, by decide, by decide⟩
theorem zcl_91 : z_cls[8]? = some ((z_mY 91).cls, TX8, 11) := rfl
theorem zc_92 : ∀ m, z_ce m 92 2 := fun _ => ⟨z_inT (i := 757) (by decide +kernel) (by decide +kernel), by decide +kernel, by decide +kernel⟩
theorem zy_92 : plainName (z_mY 92).cls = true ∧ (92 : Nat) ≠ 128 ∧ (92 : Nat) ≠ 299 := ⟨by decide +kernel, by decide, by decide⟩
theorem zcl_92 : z_cls[8]? = some ((z_mY 92).cls, TX8, 11) := rfl
theorem zc_52 : ∀ m, z_ce m 52 2 := fun _ => ⟨z_inT (i := 988) (by decide +kernel) (by decide +kernel), by decide +kernel, by decide +kernel⟩
theorem zy_52 : plainName (z_mY 52).cls = true ∧ (52 : Nat) ≠ 128 ∧ (52 : Nat) ≠ 299 := ⟨by decide +kernel, by decide, by decide⟩
theorem zcl_52 : z_cls[4]? = some ((z_mY 52).cls, TX4, 5) := rfl
theorem zw_875 : Cond.methodLink (z_mY 56).cls 33 Lib.Math.min.name ∈ z_TB := z_inT (i := 875) (by decide +kernel) (by decide +kernel)
theorem zc_18 : ∀ m, z_ce m 18 2 := fun _ => ⟨z_inT (i := 774) (by decide +kernel) (by decide +kernel), by decide +kernel, by decide +kernel⟩
theorem zy_18 : plainName (z_mY 18).cls = true ∧ (18 : Nat) ≠ 128 ∧ (18 : Nat) ≠ 299 := ⟨by decide +kernel, by decide, by decide⟩
theorem zcl_18 : z_cls[3]? = some ((z_mY 18).cls, TX3, 2) := rfl
theorem zc_57 : ∀ m, z_ce m 57 2 := fun _ => ⟨z_inT (i := 770) (by decide +kernel) (by decide +kernel), by decide +kernel, by decide +kernel⟩
theorem zy_57 : plainName (z_mY 57).cls = true ∧ (57 : Nat) ≠ 128 ∧ (57 : Nat) ≠ 299 := ⟨by decide +kernel, by decide, by decide⟩
theorem zcl_57 : z_cls[5]? = some ((z_mY 57).cls, TX5, 3) := rfl
theorem zw_944 : Cond.methodLink (z_mY 63).cls 25 Lib.Math.max.name ∈ z_TB := z_inT (i := 944) (by decide +kernel) (by decide +kernel)
theorem zw_957 : Cond.methodLink (z_mY 64).cls 31 Lib.Math.min.name ∈ z_TB := z_inT (i := 957) (by decide +kernel) (by decide +kernel)
theorem zc_64 : ∀ m, z_ce m 64 0 := fun _ => ⟨z_inT (i := 956) (by decide +kernel) (by decide +kernel), by decide +kernel, by decide +kernel⟩
theorem zy_64 : plainName (z_mY 64).cls = true ∧ (64 : Nat) ≠ 128 ∧ (64 : Nat) ≠ 299 := ⟨by decide +kernel, by decide, by decide⟩
theorem zcl_64 : z_cls[6]? = some ((z_mY 64).cls, TX6, 2) := rfl
theorem zc_113 : ∀ m, z_ce m 113 0 := fun _ => ⟨z_inT (i := 176) (by decide +kernel) (by decide +kernel), by decide +kernel, by decide +kernel⟩
theorem zy_113 : plainName (z_mY 113).cls = true ∧ (113 : Nat) ≠ 128 ∧ (113 : Nat) ≠ 299 := ⟨by decide +kernel, by decide, by decide⟩
theorem zcl_113 : z_cls[9]? = some ((z_mY 113).cls, TX9, 2) := rfl
theorem zc_69 : ∀ m, z_ce m 69 0 := fun _ => ⟨z_inT (i := 464) (by decide +kernel) (by decide +kernel), by decide +kernel, by decide +kernel⟩
theorem zy_69 : plainName (z_mY 69).cls = true ∧ (69 : Nat) ≠ 128 ∧ (69 : Nat) ≠ 299 := ⟨by decide +kernel, by decide, by decide⟩
theorem zcl_69 : z_cls[7]? = some ((z_mY 69).cls, TX7, 7) := rfl
theorem zc_76 : ∀ m, z_ce m 76 0 := fun _ => ⟨z_inT (i := 469) (by decide +kernel) (by decide +kernel), by decide +kernel, by decide +kernel⟩
theorem zy_76 : plainName (z_mY 76).cls = true ∧ (76 : Nat) ≠ 128 ∧ (76 : Nat) ≠ 299 := ⟨by decide +kernel, by decide, by decide⟩
theorem zcl_76 : z_cls[7]? = some ((z_mY 76).cls, TX7, 7) := rfl
theorem zc_75 : ∀ m, z_ce m 75 0 := fun _ => ⟨z_inT (i := 514) (by decide +kernel) (by decide +kernel), by decide +kernel, by decide +kernel⟩
theorem zy_75 : plainName (z_mY 75).cls = true ∧ (75 : Nat) ≠ 128 ∧ (75 : Nat) ≠ 299 := ⟨by decide +kernel, by decide, by decide⟩
theorem zcl_75 : z_cls[7]? = some ((z_mY 75).cls, TX7, 7) := rfl
theorem zc_78 : ∀ m, z_ce m 78 1 := fun _ => ⟨z_inT (i := 522) (by decide +kernel) (by decide +kernel), by decide +kernel, by decide +kernel⟩
theorem zy_78 : plainName (z_mY 78).cls = true ∧ (78 : Nat) ≠ 128 ∧ (78 : Nat) ≠ 299 := ⟨by decide +kernel, by decide, by decide⟩
theorem zcl_78 : z_cls[7]? = some ((z_mY 78).cls, TX7, 7) := rfl
theorem zc_74 : ∀ m, z_ce m 74 0 := fun _ => ⟨z_inT (i := 473) (by decide +kernel) (by decide +kernel), by decide +kernel, by decide +kernel⟩
theorem zy_74 : plainName (z_mY 74).cls = true ∧ (74 : Nat) ≠ 128 ∧ (74 : Nat) ≠ 299 := ⟨by decide +kernel, by decide, by decide⟩
theorem zcl_74 : z_cls[7]? = some ((z_mY 74).cls, TX7, 7) := rfl
theorem zc_71 : ∀ m, z_ce m 71 0 := fun _ => ⟨z_inT (i := 477) (by decide +kernel) (by decide +kernel), by decide +kernel, by decide +kernel⟩
theorem zy_71 : plainName (z_mY 71).cls = true ∧ (71 : Nat) ≠ 128 ∧ (71 : Nat) ≠ 299 := ⟨by decide +kernel, by decide, by decide⟩
theorem zcl_71 : z_cls[7]? = some ((z_mY 71).cls, TX7, 7) := rfl
theorem zc_70 : ∀ m, z_ce m 70 0 := fun _ => ⟨z_inT (i := 489) (by decide +kernel) (by decide +kernel), by decide +kernel, by decide +kernel⟩
theorem zy_70 : plainName (z_mY 70).cls = true ∧ (70 : Nat) ≠ 128 ∧ (70 : Nat) ≠ 299 := ⟨by decide +kernel, by decide, by decide⟩
theorem zcl_70 : z_cls[7]? = some ((z_mY 70).cls, TX7, 7) := rfl
theorem zc_80 : ∀ m, z_ce m 80 3 := fun _ => ⟨z_inT (i := 481) (by decide +kernel) (by decide +kernel), by decide +kernel, by decide +kernel⟩
theorem zy_80 : plainName (z_mY 80).cls = true ∧ (80 : Nat) ≠ 128 ∧ (80 : Nat) ≠ 299 := ⟨by decide +kernel, by decide, by decide⟩
theorem zcl_80 : z_cls[7]? = some ((z_mY 80).cls, TX7, 7) := rfl
theorem zc_77 : ∀ m, z_ce m 77 0 := fun _ => ⟨z_inT (i := 507) (by decide +kernel) (by decide +kernel), by decide +kernel, by decide +kernel⟩
theorem zy_77 : plainName (z_mY 77).cls = true ∧ (77 : Nat) ≠ 128 ∧ (77 : Nat) ≠ 299 := ⟨by decide +kernel, by decide, by decide⟩
theorem zcl_77 : z_cls[7]? = some ((z_mY 77).cls, TX7, 7) := rfl
theorem zc_72 : ∀ m, z_ce m 72 1 := fun _ => ⟨z_inT (i := 500) (by decide +kernel) (by decide +kernel), by decide +kernel, by decide +kernel⟩
theorem zy_72 : plainName (z_mY 72).cls = true ∧ (72 : Nat) ≠ 128 ∧ (72 : Nat) ≠ 299 := ⟨by decide +kernel, by decide, by decide⟩
theorem zc_73 : ∀ m, z_ce m 73 1 := fun _ => ⟨z_inT (i := 510) (by decide +kernel) (by decide +kernel), by decide +kernel, by decide +kernel⟩
theorem zy_73 : plainName (z_mY 73).cls = true ∧ (73 : Nat) ≠ 128 ∧ (73 : Nat) ≠ 299 := ⟨by decide +kernel, by decide, by decide⟩
theorem zc_79 : ∀ m, z_ce m 79 1 := fun _ => ⟨z_inT (i := 525) (by decide +kernel) (by decide +kernel), by decide +kernel, by decide +kernel⟩
theorem zy_79 : plainName (z_mY 79).cls = true ∧ (79 : Nat) ≠ 128 ∧ (79 : Nat) ≠ 299 := ⟨by decide +kernel, by decide, by decide⟩
theorem zc_82 : ∀ m, z_ce m 82 0 := fun _ => ⟨z_inT (i := 485) (by decide +kernel) (by decide +kernel), by decide +kernel, by decide +kernel⟩
theorem zy_82 : plainName (z_mY 82).cls = true ∧ (82 : Nat) ≠ 128 ∧ (82 : Nat) ≠ 299 := ⟨by decide +kernel, by decide, by decide⟩
theorem zcl_82 : z_cls[7]? = some ((z_mY 82).cls, TX7, 7) := rfl
theorem zc_83 : ∀ m, z_ce m 83 0 := fun _ => ⟨z_inT (i := 493) (by decide +kernel) (by decide +kernel), by decide +kernel, by decide +kernel⟩
theorem zy_83 : plainName (z_mY 83).cls = true ∧ (83 : Nat) ≠ 128 ∧ (83 : Nat) ≠ 299 := ⟨by decide +kernel, by decide, by decide⟩
theorem zcl_83 : z_cls[7]? = some ((z_mY 83).cls, TX7, 7) := rfl
theorem zc_81 : ∀ m, z_ce m 81 2 := fun _ => ⟨z_inT (i := 503) (by decide +kernel) (by decide +kernel), by decide +kernel, by decide +kernel⟩
theorem zy_81 : plainName (z_mY 81).cls = true ∧ (81 : Nat) ≠ 128 ∧ (81 : Nat) ≠ 299 := ⟨by decide +kernel, by decide, by decide⟩
theorem zc_84 : ∀ m, z_ce m 84 1 := fun _ => ⟨z_inT (i := 497) (by decide +kernel) (by decide +kernel), by decide +kernel, by decide +kernel⟩
theorem zy_84 : plainName (z_mY 84).cls = true ∧ (84 : Nat) ≠ 128 ∧ (84 : Nat) ≠ 299 := ⟨by decide +kernel, by decide, by decide⟩
theorem zcl_84 : z_cls[7]? = some ((z_mY 84).cls, TX7, 7) := rfl
theorem zw_712 : Cond.methodLink (z_mY 86).cls 47 Lib.Math.max.name ∈ z_TB := z_inT (i := 712) (by decide +kernel) (by decide +kernel)
theorem zc_87 : ∀ m, z_ce m 87 1 := fun _ => ⟨z_inT (i := 716) (by decide +kernel) (by decide +kernel), by decide +kernel, by decide +kernel⟩
theorem zy_87 : plainName (z_mY 87).cls = true ∧ (87 : Nat) ≠ 128 ∧ (87 : Nat) ≠ 299 := ⟨by decide +kernel, by decide, by decide⟩
theorem zcl_87 : z_cls[8]? = some ((z_mY 87).cls, TX8, 11) := rfl
theorem zc_89 : ∀ m, z_ce m 89 1 := fun _ => ⟨z_inT (i := 722) (by decide +kernel) (by decide +kernel), by decide +kernel, by decide +kernel⟩
theorem zy_89 : plainName (z_mY 89).cls = true ∧ (89 : Nat) ≠ 128 ∧ (89 : Nat) ≠ 299 := ⟨by decide +kernel, by decide, by decide⟩
theorem zcl_89 : z_cls[8]? = some ((z_mY 89).cls, TX8, 11) := rfl
theorem zc_90 : ∀ m, z_ce m 90 1 := fun _ => ⟨z_inT (i := 727) (by decide +kernel) (by decide +kernel), by decide +kernel, by decide +kernel⟩
theorem zy_90 : plainName (z_mY 90).cls = true ∧ (90 : Nat) ≠ 128 ∧ (90 : Nat) ≠ 299 := ⟨by decide +kernel, by decide, by decide⟩
theorem zcl_90 : z_cls[8]? = some ((z_mY 90).cls, TX8, 11) := rfl
theorem zc_88 : ∀ m, z_ce m 88 2 := fun _ => ⟨z_inT (i := 731) (by decide +kernel) (by decide +kernel), by decide +kernel, by decide +kernel⟩
theorem zy_88 : plainName (z_mY 88).cls = true ∧ (88 : Nat) ≠ 128 ∧ (88 : Nat) ≠ 299 := ⟨by decide +kernel, by decide, by decide⟩
theorem zcl_88 : z_cls[8]? = some ((z_mY 88).cls, TX8, 11) := rfl
theorem zc_28 : ∀ m, z_ce m 28 3 := fun _ => ⟨z_inT (i := 735) (by decide +kernel) (by decide +kernel), by decide +kernel, by decide +kernel⟩
theorem zy_28 : plainName (z_mY 28).cls = true ∧ (28 : Nat) ≠ 128 ∧ (28 : Nat) ≠ 299 := ⟨by decide +kernel, by decide, by decide⟩
theorem zcl_28 : z_cls[3]? = some ((z_mY 28).cls, TX3, 2) := rfl
theorem zc_27 : ∀ m, z_ce m 27 3 := fun _ => ⟨z_inT (i := 789) (by decide +kernel) (by decide +kernel), by decide +kernel, by decide +kernel⟩
theorem zy_27 : plainName (z_mY 27).cls = true ∧ (27 : Nat) ≠ 128 ∧ (27 : Nat) ≠ 299 := ⟨by decide +kernel, by decide, by decide⟩
theorem zcl_27 : z_cls[3]? = some ((z_mY 27).cls, TX3, 2) := rfl
theorem zc_96 : ∀ m, z_ce m 96 2 := fun _ => ⟨z_inT (i := 793) (by decide +kernel) (by decide +kernel), by decide +kernel, by decide +kernel⟩
theorem zy_96 : plainName (z_mY 96).cls = true ∧ (96 : Nat) ≠ 128 ∧ (96 : Nat) ≠ 299 := ⟨by decide +kernel, by decide, by decide⟩
theorem zcl_96 : z_cls[8]? = some ((z_mY 96).cls, TX8, 11) := rfl
theorem zc_100 : ∀ m, z_ce m 100 0 := fun _ => ⟨z_inT (i := 835) (by decide +kernel) (by decide +kernel), by decide +kernel, by decide +kernel⟩
theorem zy_100 : plainName (z_mY 100).cls = true ∧ (100 : Nat) ≠ 128 ∧ (100 : Nat) ≠ 299 := ⟨by decide +kernel, by decide, by decide⟩
theorem zcl_100 : z_cls[8]? = some ((z_mY 100).cls, TX8, 11) := rfl
theorem zc_294 : ∀ m, z_ce m 294 1 := fun _ => ⟨z_inT (i := 691) (by decide +kernel) (by decide +kernel), by decide +kernel, by decide +kernel⟩
theorem zy_294 : plainName (z_mY 294).cls = true ∧ (294 : Nat) ≠ 128 ∧ (294 : Nat) ≠ 299 := ⟨by decide +kernel, by decide, by decide⟩
theorem zc_94 : ∀ m, z_ce m 94 1 := fun _ => ⟨z_inT (i := 780) (by decide +kernel) (by decide +kernel), by decide +kernel, by decide +kernel⟩
theorem zy_94 : plainName (z_mY 94).cls = true ∧ (94 : Nat) ≠ 128 ∧ (94 : Nat) ≠ 299 := ⟨by decide +kernel, by decide, by decide⟩
theorem zcl_94 : z_cls[8]? = some ((z_mY 94).cls, TX8, 11) := rfl
theorem zc_29 : ∀ m, z_ce m 29 2 := fun _ => ⟨z_inT (i := 823) (by decide +kernel) (by decide +kernel), by decide +kernel, by decide +kernel⟩
theorem zy_29 : plainName (z_mY 29).cls = true ∧ (29 : Nat) ≠ 128 ∧ (29 : Nat) ≠ 299 := ⟨by decide +kernel, by decide, by decide⟩
theorem zcl_29 : z_cls[3]? = some ((z_mY 29).cls, TX3, 2) := rfl
theorem zc_103 : ∀ m, z_ce m 103 1 := fun _ => ⟨z_inT (i := 818) (by decide +kernel) (by decide +kernel), by decide +kernel, by decide +kernel⟩
theorem zy_103 : plainName (z_mY 103).cls = true ∧ (103 : Nat) ≠ 128 ∧ (103 : Nat) ≠ 299 := ⟨by decide +kernel, by decide, by decide⟩
theorem zcl_103 : z_cls[8]? = some ((z_mY 103).cls, TX8, 11) := rfl
theorem zc_104 : ∀ m, z_ce m 104 1 := fun _ => ⟨z_inT (i := 827) (by decide +kernel) (by decide +kernel), by decide +kernel, by decide +kernel⟩
theorem zy_104 : plainName (z_mY 104).cls = true ∧ (104 : Nat) ≠ 128 ∧ (104 : Nat) ≠ 299 := ⟨by decide +kernel, by decide, by decide⟩
theorem zcl_104 : z_cls[8]? = some ((z_mY 104).cls, TX8, 11) := rfl
theorem zc_105 : ∀ m, z_ce m 105 0 := fun _ => ⟨z_inT (i := 813) (by decide +kernel) (by decide +kernel), by decide +kernel, by decide +kernel⟩
theorem zy_105 : plainName (z_mY 105).cls = true ∧ (105 : Nat) ≠ 128 ∧ (105 : Nat) ≠ 299 := ⟨by decide +kernel, by decide, by decide⟩
theorem zcl_105 : z_cls[8]? = some ((z_mY 105).cls, TX8, 11) := rfl
theorem zc_109 : ∀ m, z_ce m 109 3 := fun _ => ⟨z_inT (i := 1000) (by decide +kernel) (by decide +kernel), by decide +kernel, by decide +kernel⟩
theorem zy_109 : plainName (z_mY 109).cls = true ∧ (109 : Nat) ≠ 128 ∧ (109 : Nat) ≠ 299 := ⟨by decide +kernel, by decide, by decide⟩
theorem zcl_109 : z_cls[8]? = some ((z_mY 109).cls, TX8, 11) := rfl
theorem zw_1001 : Cond.methodLink (z_mY 109).cls 138 Lib.Math.min.name ∈ z_TB := z_inT (i := 1001) (by decide +kernel) (by decide +kernel)
theorem zc_111 : ∀ m, z_ce m 111 2 := fun _ => ⟨z_inT (i := 1009) (by decide +kernel) (by decide +kernel), by decide +kernel, by decide +kernel⟩
theorem zy_111 : plainName (z_mY 111).cls = true ∧ (111 : Nat) ≠ 128 ∧ (111 : Nat) ≠ 299 := ⟨by decide +kernel, by decide, by decide⟩
theorem zcl_111 : z_cls[8]? = some ((z_mY 111).cls, TX8, 11) := rfl
theorem zc_112 : ∀ m, z_ce m 112 3 := fun _ => ⟨z_inT (i := 1013) (by decide +kernel) (by decide +kernel), by decide +kernel, by decide +kernel⟩
theorem zy_112 : plainName (z_mY 112).cls = true ∧ (112 : Nat) ≠ 128 ∧ (112 : Nat) ≠ 299 := ⟨by decide +kernel, by decide, by decide⟩
theorem zcl_112 : z_cls[8]? = some ((z_mY 112).cls, TX8, 11) := rfl
theorem zc_116 : ∀ m, z_ce m 116 0 := fun _ => ⟨z_inT (i := 151) (by decide +kernel) (by decide +kernel), by decide +kernel, by decide +kernel⟩
theorem zy_116 : plainName (z_mY 116).cls = true ∧ (116 : Nat) ≠ 128 ∧ (116 : Nat) ≠ 299 := ⟨by decide +kernel, by decide, by decide⟩
theorem zcl_116 : z_cls[10]? = some ((z_mY 116).cls, TX10, 2) := rfl
theorem zc_66 : ∀ m, z_ce m 66 1 := fun _ => ⟨z_inT (i := 168) (by decide +kernel) (by decide +kernel), by decide +kernel, by decide +kernel⟩
theorem zy_66 : plainName (z_mY 66).cls = true ∧ (66 : Nat) ≠ 128 ∧ (66 : Nat) ≠ 299 := ⟨by decide +kernel, by decide, by decide⟩
theorem zcl_66 : z_cls[7]? = some ((z_mY 66).cls, TX7, 7) := rfl
theorem zc_15 : ∀ m, z_ce m 15 0 := fun _ => ⟨z_inT (i := 221) (by decide +kernel) (by decide +kernel), by decide +kernel, by decide +kernel⟩
theorem zy_15 : plainName (z_mY 15).cls = true ∧ (15 : Nat) ≠ 128 ∧ (15 : Nat) ≠ 299 := ⟨by decide +kernel, by decide, by decide⟩
theorem zcl_15 : z_cls[3]? = some ((z_mY 15).cls, TX3, 2) := rfl
theorem zc_85 : ∀ m, z_ce m 85 1 := fun _ => ⟨z_inT (i := 239) (by decide +kernel) (by decide +kernel), by decide +kernel, by decide +kernel⟩
theorem zy_85 : plainName (z_mY 85).cls = true ∧ (85 : Nat) ≠ 128 ∧ (85 : Nat) ≠ 299 := ⟨by decide +kernel, by decide, by decide⟩
theorem zcl_85 : z_cls[8]? = some ((z_mY 85).cls, TX8, 11) := rfl
theorem zc_54 : ∀ m, z_ce m 54 0 := fun _ => ⟨z_inT (i := 282) (by decide +kernel) (by decide +kernel), by decide +kernel, by decide +kernel⟩
theorem zy_54 : plainName (z_mY 54).cls = true ∧ (54 : Nat) ≠ 128 ∧ (54 : Nat) ≠ 299 := ⟨by decide +kernel, by decide, by decide⟩
theorem zcl_54 : z_cls[5]? = some ((z_mY 54).cls, TX5, 3) := rfl
theorem zc_59 : ∀ m, z_ce m 59 0 := fun _ => ⟨z_inT (i := 299) (by decide +kernel) (by decide +kernel), by decide +kernel, by decide +kernel⟩
theorem zy_59 : plainName (z_mY 59).cls = true ∧ (59 : Nat) ≠ 128 ∧ (59 : Nat) ≠ 299 := ⟨by decide +kernel, by decide, by decide⟩
theorem zcl_59 : z_cls[6]? = some ((z_mY 59).cls, TX6, 2) := rfl
theorem zc_0 : ∀ m, z_ce m 0 0 := fun _ => ⟨z_inT (i := 312) (by decide +kernel) (by decide +kernel), by decide +kernel, by decide +kernel⟩
theorem zy_0 : plainName (z_mY 0).cls = true ∧ (0 : Nat) ≠ 128 ∧ (0 : Nat) ≠ 299 := ⟨by decide +kernel, by decide, by decide⟩
theorem zcl_0 : z_cls[0]? = some ((z_mY 0).cls, TX0, 7) := rfl
theorem zc_49 : ∀ m, z_ce m 49 0 := fun _ => ⟨z_inT (i := 348) (by decide +kernel) (by decide +kernel), by decide +kernel, by decide +kernel⟩
theorem zy_49 : plainName (z_mY 49).cls = true ∧ (49 : Nat) ≠ 128 ∧ (49 : Nat) ≠ 299 := ⟨by decide +kernel, by decide, by decide⟩
theorem zcl_49 : z_cls[4]? = some ((z_mY 49).cls, TX4, 5) := rfl
theorem zc_8 : ∀ m, z_ce m 8 0 := fun _ => ⟨z_inT (i := 370) (by decide +kernel) (by decide +kernel), by decide +kernel, by decide +kernel⟩
theorem zy_8 : plainName (z_mY 8).cls = true ∧ (8 : Nat) ≠ 128 ∧ (8 : Nat) ≠ 299 := ⟨by decide +kernel, by decide, by decide⟩
theorem zcl_8 : z_cls[1]? = some ((z_mY 8).cls, TX1, 2) := rfl
theorem zc_117 : ∀ m, z_ce m 117 1 := fun _ => ⟨z_inT (i := 444) (by decide +kernel) (by decide +kernel), by decide +kernel, by decide +kernel⟩
theorem zy_117 : plainName (z_mY 117).cls = true ∧ (117 : Nat) ≠ 128 ∧ (117 : Nat) ≠ 299 := ⟨by decide +kernel, by decide, by decide⟩
theorem zc_118 : ∀ m, z_ce m 118 1 := fun _ => ⟨z_inT (i := 448) (by decide +kernel) (by decide +kernel), by decide +kernel, by decide +kernel⟩
theorem zy_118 : plainName (z_mY 118).cls = true ∧ (118 : Nat) ≠ 128 ∧ (118 : Nat) ≠ 299 := ⟨by decide +kernel, by decide, by decide⟩
theorem zcl_118 : z_cls[10]? = some ((z_mY 118).cls, TX10, 2) := rfl
theorem zc_67 : ∀ m, z_ce m 67 0 := fun _ => ⟨z_inT (i := 460) (by decide +kernel) (by decide +kernel), by decide +kernel, by decide +kernel⟩
theorem zy_67 : plainName (z_mY 67).cls = true ∧ (67 : Nat) ≠ 128 ∧ (67 : Nat) ≠ 299 := ⟨by decide +kernel, by decide, by decide⟩
theorem zcl_67 : z_cls[7]? = some ((z_mY 67).cls, TX7, 7) := rfl
theorem zc_68 : ∀ m, z_ce m 68 0 := fun _ => ⟨z_inT (i := 518) (by decide +kernel) (by decide +kernel), by decide +kernel, by decide +kernel⟩
theorem zy_68 : plainName (z_mY 68).cls = true ∧ (68 : Nat) ≠ 128 ∧ (68 : Nat) ≠ 299 := ⟨by decide +kernel, by decide, by decide⟩
theorem zcl_68 : z_cls[7]? = some ((z_mY 68).cls, TX7, 7) := rfl
theorem zc_124 : ∀ m, z_ce m 124 0 := fun _ => ⟨z_inT (i := 534) (by decide +kernel) (by decide +kernel), by decide +kernel, by decide +kernel⟩
theorem zy_124 : plainName (z_mY 124).cls = true ∧ (124 : Nat) ≠ 128 ∧ (124 : Nat) ≠ 299 := ⟨by decide +kernel, by decide, by decide⟩
theorem zcl_124 : z_cls[11]? = some ((z_mY 124).cls, TX11, 19) := rfl
theorem zc_125 : ∀ m, z_ce m 125 0 := fun _ => ⟨z_inT (i := 660) (by decide +kernel) (by decide +kernel), by decide +kernel, by decide +kernel⟩
theorem zy_125 : plainName (z_mY 125).cls = true ∧ (125 : Nat) ≠ 128 ∧ (125 : Nat) ≠ 299 := ⟨by decide +kernel, by decide, by decide⟩
theorem zcl_125 : z_cls[11]? = some ((z_mY 125).cls, TX11, 19) := rfl
theorem zc_55 : ∀ m, z_ce m 55 0 := fun _ => ⟨z_inT (i := 538) (by decide +kernel) (by decide +kernel), by decide +kernel, by decide +kernel⟩
theorem zy_55 : plainName (z_mY 55).cls = true ∧ (55 : Nat) ≠ 128 ∧ (55 : Nat) ≠ 299 := ⟨by decide +kernel, by decide, by decide⟩
theorem zcl_55 : z_cls[5]? = some ((z_mY 55).cls, TX5, 3) := rfl
theorem zc_60 : ∀ m, z_ce m 60 0 := fun _ => ⟨z_inT (i := 542) (by decide +kernel) (by decide +kernel), by decide +kernel, by decide +kernel⟩
theorem zy_60 : plainName (z_mY 60).cls = true ∧ (60 : Nat) ≠ 128 ∧ (60 : Nat) ≠ 299 := ⟨by decide +kernel, by decide, by decide⟩
theorem zcl_60 : z_cls[6]? = some ((z_mY 60).cls, TX6, 2) := rfl
theorem zc_16 : ∀ m, z_ce m 16 0 := fun _ => ⟨z_inT (i := 549) (by decide +kernel) (by decide +kernel), by decide +kernel, by decide +kernel⟩
theorem zy_16 : plainName (z_mY 16).cls = true ∧ (16 : Nat) ≠ 128 ∧ (16 : Nat) ≠ 299 := ⟨by decide +kernel, by decide, by decide⟩
theorem zcl_16 : z_cls[3]? = some ((z_mY 16).cls, TX3, 2) := rfl
theorem zc_35 : ∀ m, z_ce m 35 1 := fun _ => ⟨z_inT (i := 575) (by decide +kernel) (by decide +kernel), by decide +kernel, by decide +kernel⟩
theorem zy_35 : plainName (z_mY 35).cls = true ∧ (35 : Nat) ≠ 128 ∧ (35 : Nat) ≠ 299 := ⟨by decide +kernel, by decide, by decide⟩
theorem zcl_35 : z_cls[3]? = some ((z_mY 35).cls, TX3, 2) := rfl
theorem zc_40 : ∀ m, z_ce m 40 1 := fun _ => ⟨z_inT (i := 644) (by decide +kernel) (by decide +kernel), by decide +kernel, by decide +kernel⟩
theorem zy_40 : plainName (z_mY 40).cls = true ∧ (40 : Nat) ≠ 128 ∧ (40 : Nat) ≠ 299 := ⟨by decide +kernel, by decide, by decide⟩
theorem zcl_40 : z_cls[3]? = some ((z_mY 40).cls, TX3, 2) := rfl
theorem zc_114 : ∀ m, z_ce m 114 1 := fun _ => ⟨z_inT (i := 665) (by decide +kernel) (by decide +kernel), by decide +kernel, by decide +kernel⟩
theorem zy_114 : plainName (z_mY 114).cls = true ∧ (114 : Nat) ≠ 128 ∧ (114 : Nat) ≠ 299 := ⟨by decide +kernel, by decide, by decide⟩
theorem zcl_114 : z_cls[9]? = some ((z_mY 114).cls, TX9, 2) := rfl
theorem zc_45 : ∀ m, z_ce m 45 0 := fun _ => ⟨z_inT (i := 674) (by decide +kernel) (by decide +kernel), by decide +kernel, by decide +kernel⟩
theorem zy_45 : plainName (z_mY 45).cls = true ∧ (45 : Nat) ≠ 128 ∧ (45 : Nat) ≠ 299 := ⟨by decide +kernel, by decide, by decide⟩
theorem zcl_45 : z_cls[3]? = some ((z_mY 45).cls, TX3, 2) := rfl
theorem zc_46 : ∀ m, z_ce m 46 0 := fun _ => ⟨z_inT (i := 688) (by decide +kernel) (by decide +kernel), by decide +kernel, by decide +kernel⟩
theorem zy_46 : plainName (z_mY 46).cls = true ∧ (46 : Nat) ≠ 128 ∧ (46 : Nat) ≠ 299 := ⟨by decide +kernel, by decide, by decide⟩
theorem zcl_46 : z_cls[3]? = some ((z_mY 46).cls, TX3, 2) := rfl
theorem zc_127 : ∀ m, z_ce m 127 0 := fun _ => ⟨z_inT (i := 698) (by decide +kernel) (by decide +kernel), by decide +kernel, by decide +kernel⟩
theorem zy_127 : plainName (z_mY 127).cls = true ∧ (127 : Nat) ≠ 128 ∧ (127 : Nat) ≠ 299 := ⟨by decide +kernel, by decide, by decide⟩
theorem zcl_127 : z_cls[11]? = some ((z_mY 127).cls, TX11, 19) := rfl
theorem zc_168 : ∀ m, z_ce m 168 0 := fun _ => ⟨z_inT (i := 706) (by decide +kernel) (by decide +kernel), by decide +kernel, by decide +kernel⟩
theorem zy_168 : plainName (z_mY 168).cls = true ∧ (168 : Nat) ≠ 128 ∧ (168 : Nat) ≠ 299 := ⟨by decide +kernel, by decide, by decide⟩
theorem zcl_168 : z_cls[11]? = some ((z_mY 168).cls, TX11, 19) := rfl
theorem zc_93 : ∀ m, z_ce m 93 1 := fun _ => ⟨z_inT (i := 1208) (by decide +kernel) (by decide +kernel), by decide +kernel, by decide +kernel⟩
theorem zy_93 : plainName (z_mY 93).cls = true ∧ (93 : Nat) ≠ 128 ∧ (93 : Nat) ≠ 299 := ⟨by decide +kernel, by decide, by decide⟩
theorem zcl_93 : z_cls[8]? = some ((z_mY 93).cls, TX8, 11) := rfl
theorem zc_169 : ∀ m, z_ce m 169 1 := fun _ => ⟨z_inT (i := 766) (by decide +kernel) (by decide +kernel), by decide +kernel, by decide +kernel⟩
theorem zy_169 : plainName (z_mY 169).cls = true ∧ (169 : Nat) ≠ 128 ∧ (169 : Nat) ≠ 299 := ⟨by decide +kernel, by decide, by decide⟩
theorem zcl_169 : z_cls[11]? = some ((z_mY 169).cls, TX11, 19) := rfl
theorem zc_95 : ∀ m, z_ce m 95 3 := fun _ => ⟨z_inT (i := 784) (by decide +kernel) (by decide +kernel), by decide +kernel, by decide +kernel⟩
theorem zy_95 : plainName (z_mY 95).cls = true ∧ (95 : Nat) ≠ 128 ∧ (95 : Nat) ≠ 299 := ⟨by decide +kernel, by decide, by decide⟩
theorem zcl_95 : z_cls[8]? = some ((z_mY 95).cls, TX8, 11) := rfl
theorem zc_9 : ∀ m, z_ce m 9 1 := fun _ => ⟨z_inT (i := 844) (by decide +kernel) (by decide +kernel), by decide +kernel, by decide +kernel⟩
theorem zy_9 : plainName (z_mY 9).cls = true ∧ (9 : Nat) ≠ 128 ∧ (9 : Nat) ≠ 299 := ⟨by decide +kernel, by decide, by decide⟩
theorem zcl_9 : z_cls[1]? = some ((z_mY 9).cls, TX1, 2) := rfl
theorem zc_10 : ∀ m, z_ce m 10 1 := fun _ => ⟨z_inT (i := 855) (by decide +kernel) (by decide +kernel), by decide +kernel, by decide +kernel⟩
theorem zy_10 : plainName (z_mY 10).cls = true ∧ (10 : Nat) ≠ 128 ∧ (10 : Nat) ≠ 299 := ⟨by decide +kernel, by decide, by decide⟩
theorem zcl_10 : z_cls[1]? = some ((z_mY 10).cls, TX1, 2) := rfl
theorem zc_141 : ∀ m, z_ce m 141 0 := fun _ => ⟨z_inT (i := 865) (by decide +kernel) (by decide +kernel), by decide +kernel, by decide +kernel⟩
theorem zy_141 : plainName (z_mY 141).cls = true ∧ (141 : Nat) ≠ 128 ∧ (141 : Nat) ≠ 299 := ⟨by decide +kernel, by decide, by decide⟩
theorem zcl_141 : z_cls[11]? = some ((z_mY 141).cls, TX11, 19) := rfl
theorem zc_142 : ∀ m, z_ce m 142 0 := fun _ => ⟨z_inT (i := 869) (by decide +kernel) (by decide +kernel), by decide +kernel, by decide +kernel⟩
theorem zy_142 : plainName (z_mY 142).cls = true ∧ (142 : Nat) ≠ 128 ∧ (142 : Nat) ≠ 299 := ⟨by decide +kernel, by decide, by decide⟩
theorem zcl_142 : z_cls[11]? = some ((z_mY 142).cls, TX11, 19) := rfl
theorem zc_56 : ∀ m, z_ce m 56 1 := fun _ => ⟨z_inT (i := 873) (by decide +kernel) (by decide +kernel), by decide +kernel, by decide +kernel⟩
theorem zy_56 : plainName (z_mY 56).cls = true ∧ (56 : Nat) ≠ 128 ∧ (56 : Nat) ≠ 299 := ⟨by decide +kernel, by decide, by decide⟩
theorem zcl_56 : z_cls[5]? = some ((z_mY 56).cls, TX5, 3) := rfl
theorem zc_7 : ∀ m, z_ce m 7 1 := fun _ => ⟨z_inT (i := 879) (by decide +kernel) (by decide +kernel), by decide +kernel, by decide +kernel⟩
theorem zy_7 : plainName (z_mY 7).cls = true ∧ (7 : Nat) ≠ 128 ∧ (7 : Nat) ≠ 299 := ⟨by decide +kernel, by decide, by decide⟩
theorem zcl_7 : z_cls[0]? = some ((z_mY 7).cls, TX0, 7) := rfl
theorem zc_62 : ∀ m, z_ce m 62 3 := fun _ => ⟨z_inT (i := 883) (by decide +kernel) (by decide +kernel), by decide +kernel, by decide +kernel⟩
theorem zy_62 : plainName (z_mY 62).cls = true ∧ (62 : Nat) ≠ 128 ∧ (62 : Nat) ≠ 299 := ⟨by decide +kernel, by decide, by decide⟩
theorem zcl_62 : z_cls[6]? = some ((z_mY 62).cls, TX6, 2) := rfl
theorem zc_13 : ∀ m, z_ce m 13 1 := fun _ => ⟨z_inT (i := 907) (by decide +kernel) (by decide +kernel), by decide +kernel, by decide +kernel⟩
theorem zy_13 : plainName (z_mY 13).cls = true ∧ (13 : Nat) ≠ 128 ∧ (13 : Nat) ≠ 299 := ⟨by decide +kernel, by decide, by decide⟩
theorem zcl_13 : z_cls[2]? = some ((z_mY 13).cls, TX2, 1) := rfl
theorem zc_144 : ∀ m, z_ce m 144 1 := fun _ => ⟨z_inT (i := 916) (by decide +kernel) (by decide +kernel), by decide +kernel, by decide +kernel⟩
theorem zy_144 : plainName (z_mY 144).cls = true ∧ (144 : Nat) ≠ 128 ∧ (144 : Nat) ≠ 299 := ⟨by decide +kernel, by decide, by decide⟩
theorem zcl_144 : z_cls[11]? = some ((z_mY 144).cls, TX11, 19) := rfl
theorem zc_14 : ∀ m, z_ce m 14 1 := fun _ => ⟨z_inT (i := 920) (by decide +kernel) (by decide +kernel), by decide +kernel, by decide +kernel⟩
theorem zy_14 : plainName (z_mY 14).cls = true ∧ (14 : Nat) ≠ 128 ∧ (14 : Nat) ≠ 299 := ⟨by decide +kernel, by decide, by decide⟩
theorem zcl_14 : z_cls[2]? = some ((z_mY 14).cls, TX2, 1) := rfl
theorem zc_145 : ∀ m, z_ce m 145 1 := fun _ => ⟨z_inT (i := 926) (by decide +kernel) (by decide +kernel), by decide +kernel, by decide +kernel⟩
theorem zy_145 : plainName (z_mY 145).cls = true ∧ (145 : Nat) ≠ 128 ∧ (145 : Nat) ≠ 299 := ⟨by decide +kernel, by decide, by decide⟩
theorem zcl_145 : z_cls[11]? = some ((z_mY 145).cls, TX11, 19) := rfl
theorem zc_58 : ∀ m, z_ce m 58 1 := fun _ => ⟨z_inT (i := 938) (by decide +kernel) (by decide +kernel), by decide +kernel, by decide +kernel⟩
theorem zy_58 : plainName (z_mY 58).cls = true ∧ (58 : Nat) ≠ 128 ∧ (58 : Nat) ≠ 299 := ⟨by decide +kernel, by decide, by decide⟩
theorem zcl_58 : z_cls[5]? = some ((z_mY 58).cls, TX5, 3) := rfl
theorem zc_63 : ∀ m, z_ce m 63 0 := fun _ => ⟨z_inT (i := 943) (by decide +kernel) (by decide +kernel), by decide +kernel, by decide +kernel⟩
theorem zy_63 : plainName (z_mY 63).cls = true ∧ (63 : Nat) ≠ 128 ∧ (63 : Nat) ≠ 299 := ⟨by decide +kernel, by decide, by decide⟩
theorem zcl_63 : z_cls[6]? = some ((z_mY 63).cls, TX6, 2) := rfl
theorem zc_65 : ∀ m, z_ce m 65 2 := fun _ => ⟨z_inT (i := 952) (by decide +kernel) (by decide +kernel), by decide +kernel, by decide +kernel⟩
theorem zy_65 : plainName (z_mY 65).cls = true ∧ (65 : Nat) ≠ 128 ∧ (65 : Nat) ≠ 299 := ⟨by decide +kernel, by decide, by decide⟩
theorem zcl_65 : z_cls[6]? = some ((z_mY 65).cls, TX6, 2) := rfl
theorem zc_102 : ∀ m, z_ce m 102 0 := fun _ => ⟨z_inT (i := 966) (by decide +kernel) (by decide +kernel), by decide +kernel, by decide +kernel⟩
theorem zy_102 : plainName (z_mY 102).cls = true ∧ (102 : Nat) ≠ 128 ∧ (102 : Nat) ≠ 299 := ⟨by decide +kernel, by decide, by decide⟩
theorem zcl_102 : z_cls[8]? = some ((z_mY 102).cls, TX8, 11) := rfl
theorem zc_50 : ∀ m, z_ce m 50 2 := fun _ => ⟨z_inT (i := 974) (by decide +kernel) (by decide +kernel), by decide +kernel, by decide +kernel⟩
theorem zy_50 : plainName (z_mY 50).cls = true ∧ (50 : Nat) ≠ 128 ∧ (50 : Nat) ≠ 299 := ⟨by decide +kernel, by decide, by decide⟩
theorem zcl_50 : z_cls[4]? = some ((z_mY 50).cls, TX4, 5) := rfl
theorem zc_108 : ∀ m, z_ce m 108 1 := fun _ => ⟨z_inT (i := 996) (by decide +kernel) (by decide +kernel), by decide +kernel, by decide +kernel⟩
theorem zy_108 : plainName (z_mY 108).cls = true ∧ (108 : Nat) ≠ 128 ∧ (108 : Nat) ≠ 299 := ⟨by decide +kernel, by decide, by decide⟩
theorem zcl_108 : z_cls[8]? = some ((z_mY 108).cls, TX8, 11) := rfl
theorem zc_110 : ∀ m, z_ce m 110 1 := fun _ => ⟨z_inT (i := 1005) (by decide +kernel) (by decide +kernel), by decide +kernel, by decide +kernel⟩
theorem zy_110 : plainName (z_mY 110).cls = true ∧ (110 : Nat) ≠ 128 ∧ (110 : Nat) ≠ 299 := ⟨by decide +kernel, by decide, by decide⟩
theorem zcl_110 : z_cls[8]? = some ((z_mY 110).cls, TX8, 11) := rfl
theorem zc_98 : ∀ m, z_ce m 98 0 := fun _ => ⟨z_inT (i := 1021) (by decide +kernel) (by decide +kernel), by decide +kernel, by decide +kernel⟩
theorem zy_98 : plainName (z_mY 98).cls = true ∧ (98 : Nat) ≠ 128 ∧ (98 : Nat) ≠ 299 := ⟨by decide +kernel, by decide, by decide⟩
theorem zcl_98 : z_cls[8]? = some ((z_mY 98).cls, TX8, 11) := rfl
theorem zc_99 : ∀ m, z_ce m 99 0 := fun _ => ⟨z_inT (i := 1025) (by decide +kernel) (by decide +kernel), by decide +kernel, by decide +kernel⟩
theorem zy_99 : plainName (z_mY 99).cls = true ∧ (99 : Nat) ≠ 128 ∧ (99 : Nat) ≠ 299 := ⟨by decide +kernel, by decide, by decide⟩
theorem zcl_99 : z_cls[8]? = some ((z_mY 99).cls, TX8, 11) := rfl
theorem zc_17 : ∀ m, z_ce m 17 1 := fun _ => ⟨z_inT (i := 1033) (by decide +kernel) (by decide +kernel), by decide +kernel, by decide +kernel⟩
theorem zy_17 : plainName (z_mY 17).cls = true ∧ (17 : Nat) ≠ 128 ∧ (17 : Nat) ≠ 299 := ⟨by decide +kernel, by decide, by decide⟩
theorem zcl_17 : z_cls[3]? = some ((z_mY 17).cls, TX3, 2) := rfl
theorem zc_86 : ∀ m, z_ce m 86 0 := fun _ => ⟨z_inT (i := 710) (by decide +kernel) (by decide +kernel), by decide +kernel, by decide +kernel⟩
theorem zy_86 : plainName (z_mY 86).cls = true ∧ (86 : Nat) ≠ 128 ∧ (86 : Nat) ≠ 299 := ⟨by decide +kernel, by decide, by decide⟩
theorem zcl_86 : z_cls[8]? = some ((z_mY 86).cls, TX8, 11) := rfl
theorem zc_30 : ∀ m, z_ce m 30 3 := fun _ => ⟨z_inT (i := 1046) (by decide +kernel) (by decide +kernel), by decide +kernel, by decide +kernel⟩
theorem zy_30 : plainName (z_mY 30).cls = true ∧ (30 : Nat) ≠ 128 ∧ (30 : Nat) ≠ 299 := ⟨by decide +kernel, by decide, by decide⟩
theorem zcl_30 : z_cls[3]? = some ((z_mY 30).cls, TX3, 2) := rfl
theorem zc_161 : ∀ m, z_ce m 161 1 := fun _ => ⟨z_inT (i := 1058) (by decide +kernel) (by decide +kernel), by decide +kernel, by decide +kernel⟩
theorem zy_161 : plainName (z_mY 161).cls = true ∧ (161 : Nat) ≠ 128 ∧ (161 : Nat) ≠ 299 := ⟨by decide +kernel, by decide, by decide⟩
theorem zcl_161 : z_cls[11]? = some ((z_mY 161).cls, TX11, 19) := rfl
theorem zc_115 : ∀ m, z_ce m 115 2 := fun _ => ⟨z_inT (i := 1063) (by decide +kernel) (by decide +kernel), by decide +kernel, by decide +kernel⟩
theorem zy_115 : plainName (z_mY 115).cls = true ∧ (115 : Nat) ≠ 128 ∧ (115 : Nat) ≠ 299 := ⟨by decide +kernel, by decide, by decide⟩
theorem zcl_115 : z_cls[9]? = some ((z_mY 115).cls, TX9, 2) := rfl
theorem zc_160 : ∀ m, z_ce m 160 1 := fun _ => ⟨z_inT (i := 1072) (by decide +kernel) (by decide +kernel), by decide +kernel, by decide +kernel⟩
theorem zy_160 : plainName (z_mY 160).cls = true ∧ (160 : Nat) ≠ 128 ∧ (160 : Nat) ≠ 299 := ⟨by decide +kernel, by decide, by decide⟩
theorem zcl_160 : z_cls[11]? = some ((z_mY 160).cls, TX11, 19) := rfl
theorem zc_5 : ∀ m, z_ce m 5 2 := fun _ => ⟨z_inT (i := 1076) (by decide +kernel) (by decide +kernel), by decide +kernel, by decide +kernel⟩
theorem zy_5 : plainName (z_mY 5).cls = true ∧ (5 : Nat) ≠ 128 ∧ (5 : Nat) ≠ 299 := ⟨by decide +kernel, by decide, by decide⟩
theorem zcl_5 : z_cls[0]? = some ((z_mY 5).cls, TX0, 7) := rfl
theorem zc_97 : ∀ m, z_ce m 97 0 := fun _ => ⟨z_inT (i := 1089) (by decide +kernel) (by decide +kernel), by decide +kernel, by decide +kernel⟩
theorem zy_97 : plainName (z_mY 97).cls = true ∧ (97 : Nat) ≠ 128 ∧ (97 : Nat) ≠ 299 := ⟨by decide +kernel, by decide, by decide⟩
theorem zcl_97 : z_cls[8]? = some ((z_mY 97).cls, TX8, 11) := rfl
theorem zc_106 : ∀ m, z_ce m 106 0 := fun _ => ⟨z_inT (i := 1093) (by decide +kernel) (by decide +kernel), by decide +kernel, by decide +kernel⟩
theorem zy_106 : plainName (z_mY 106).cls = true ∧ (106 : Nat) ≠ 128 ∧ (106 : Nat) ≠ 299 := ⟨by decide +kernel, by decide, by decide⟩
theorem zcl_106 : z_cls[8]? = some ((z_mY 106).cls, TX8, 11) := rfl
theorem zc_101 : ∀ m, z_ce m 101 0 := fun _ => ⟨z_inT (i := 1098) (by decide +kernel) (by decide +kernel), by decide +kernel, by decide +kernel⟩
theorem zy_101 : plainName (z_mY 101).cls = true ∧ (101 : Nat) ≠ 128 ∧ (101 : Nat) ≠ 299 := ⟨by decide +kernel, by decide, by decide⟩
theorem zcl_101 : z_cls[8]? = some ((z_mY 101).cls, TX8, 11) := rfl
theorem zc_107 : ∀ m, z_ce m 107 0 := fun _ => ⟨z_inT (i := 1104) (by decide +kernel) (by decide +kernel), by decide +kernel, by decide +kernel⟩
theorem zy_107 : plainName (z_mY 107).cls = true ∧ (107 : Nat) ≠ 128 ∧ (107 : Nat) ≠ 299 := ⟨by decide +kernel, by decide, by decide⟩
theorem zcl_107 : z_cls[8]? = some ((z_mY 107).cls, TX8, 11) := rfl
theorem zc_47 : ∀ m, z_ce m 47 0 := fun _ => ⟨z_inT (i := 1108) (by decide +kernel) (by decide +kernel), by decide +kernel, by decide +kernel⟩
theorem zy_47 : plainName (z_mY 47).cls = true ∧ (47 : Nat) ≠ 128 ∧ (47 : Nat) ≠ 299 := ⟨by decide +kernel, by decide, by decide⟩
theorem zcl_47 : z_cls[3]? = some ((z_mY 47).cls, TX3, 2) := rfl
theorem zc_48 : ∀ m, z_ce m 48 0 := fun _ => ⟨z_inT (i := 1112) (by decide +kernel) (by decide +kernel), by decide +kernel, by decide +kernel⟩
theorem zy_48 : plainName (z_mY 48).cls = true ∧ (48 : Nat) ≠ 128 ∧ (48 : Nat) ≠ 299 := ⟨by decide +kernel, by decide, by decide⟩
theorem zcl_48 : z_cls[3]? = some ((z_mY 48).cls, TX3, 2) := rfl
theorem zc_61 : ∀ m, z_ce m 61 1 := fun _ => ⟨z_inT (i := 1120) (by decide +kernel) (by decide +kernel), by decide +kernel, by decide +kernel⟩
theorem zy_61 : plainName (z_mY 61).cls = true ∧ (61 : Nat) ≠ 128 ∧ (61 : Nat) ≠ 299 := ⟨by decide +kernel, by decide, by decide⟩
theorem zcl_61 : z_cls[6]? = some ((z_mY 61).cls, TX6, 2) := rfl
theorem zc_174 : ∀ m, z_ce m 174 6 := fun _ => ⟨z_inT (i := 1339) (by decide +kernel) (by decide +kernel), by decide +kernel, by decide +kernel⟩
theorem zy_174 : plainName (z_mY 174).cls = true ∧ (174 : Nat) ≠ 128 ∧ (174 : Nat) ≠ 299 := ⟨by decide +kernel, by decide, by decide⟩
theorem zc_170 : ∀ m, z_ce m 170 3 := fun _ => ⟨z_inT (i := 1346) (by decide +kernel) (by decide +kernel), by decide +kernel, by decide +kernel⟩
theorem zy_170 : plainName (z_mY 170).cls = true ∧ (170 : Nat) ≠ 128 ∧ (170 : Nat) ≠ 299 := ⟨by decide +kernel, by decide, by decide⟩
theorem zc_177 : ∀ m, z_ce m 177 0 := fun _ => ⟨z_inT (i := 1366) (by decide +kernel) (by decide +kernel), by decide +kernel, by decide +kernel⟩
theorem zy_177 : plainName (z_mY 177).cls = true ∧ (177 : Nat) ≠ 128 ∧ (177 : Nat) ≠ 299 := ⟨by decide +kernel, by decide, by decide⟩
theorem zcl_177 : z_cls[12]? = some ((z_mY 177).cls, TX12, 39) := rfl
theorem zc_180 : ∀ m, z_ce m 180 1 := fun _ => ⟨z_inT (i := 1389) (by decide +kernel) (by decide +kernel), by decide +kernel, by decide +kernel⟩
theorem zy_180 : plainName (z_mY 180).cls = true ∧ (180 : Nat) ≠ 128 ∧ (180 : Nat) ≠ 299 := ⟨by decide +kernel, by decide, by decide⟩
theorem zc_179 : ∀ m, z_ce m 179 0 := fun _ => ⟨z_inT (i := 1378) (by decide +kernel) (by decide +kernel), by decide +kernel, by decide +kernel⟩
theorem zy_179 : plainName (z_mY 179).cls = true ∧ (179 : Nat) ≠ 128 ∧ (179 : Nat) ≠ 299 := ⟨by decide +kernel, by decide, by decide⟩
theorem zcl_179 : z_cls[12]? = some ((z_mY 179).cls, TX12, 39) := rfl
theorem zc_178 : ∀ m, z_ce m 178 0 := fun _ => ⟨z_inT (i := 1362) (by decide +kernel) (by decide +kernel), by decide +kernel, by decide +kernel⟩
theorem zy_178 : plainName (z_mY 178).cls = true ∧ (178 : Nat) ≠ 128 ∧ (178 : Nat) ≠ 299 := ⟨by decide +kernel, by decide, by decide⟩
theorem zcl_178 : z_cls[12]? = some ((z_mY 178).cls, TX12, 39) := rfl
theorem zc_182 : ∀ m, z_ce m 182 2 := fun _ => ⟨z_inT (i := 1386) (by decide +kernel) (by decide +kernel), by decide +kernel, by decide +kernel⟩
theorem zy_182 : plainName (z_mY 182).cls = true ∧ (182 : Nat) ≠ 128 ∧ (182 : Nat) ≠ 299 := ⟨by decide +kernel, by decide, by decide⟩
theorem zcl_182 : z_cls[12]? = some ((z_mY 182).cls, TX12, 39) := rfl
theorem zc_185 : ∀ m, z_ce m 185 0 := fun _ => ⟨z_inT (i := 1374) (by decide +kernel) (by decide +kernel), by decide +kernel, by decide +kernel⟩
theorem zy_185 : plainName (z_mY 185).cls = true ∧ (185 : Nat) ≠ 128 ∧ (185 : Nat) ≠ 299 := ⟨by decide +kernel, by decide, by decide⟩
theorem zcl_185 : z_cls[12]? = some ((z_mY 185).cls, TX12, 39) := rfl
theorem zc_183 : ∀ m, z_ce m 183 2 := fun _ => ⟨z_inT (i := 1382) (by decide +kernel) (by decide +kernel), by decide +kernel, by decide +kernel⟩
theorem zy_183 : plainName (z_mY 183).cls = true ∧ (183 : Nat) ≠ 128 ∧ (183 : Nat) ≠ 299 := ⟨by decide +kernel, by decide, by decide⟩
theorem zcl_183 : z_cls[12]? = some ((z_mY 183).cls, TX12, 39) := rfl
theorem zc_181 : ∀ m, z_ce m 181 1 := fun _ => ⟨z_inT (i := 1396) (by decide +kernel) (by decide +kernel), by decide +kernel, by decide +kernel⟩
theorem zy_181 : plainName (z_mY 181).cls = true ∧ (181 : Nat) ≠ 128 ∧ (181 : Nat) ≠ 299 := ⟨by decide +kernel, by decide, by decide⟩
theorem zc_186 : ∀ m, z_ce m 186 2 := fun _ => ⟨z_inT (i := 1370) (by decide +kernel) (by decide +kernel), by decide +kernel, by decide +kernel⟩
theorem zy_186 : plainName (z_mY 186).cls = true ∧ (186 : Nat) ≠ 128 ∧ (186 : Nat) ≠ 299 := ⟨by decide +kernel, by decide, by decide⟩
theorem zcl_186 : z_cls[12]? = some ((z_mY 186).cls, TX12, 39) := rfl
theorem zc_187 : ∀ m, z_ce m 187 0 := fun _ => ⟨z_inT (i := 1393) (by decide +kernel) (by decide +kernel), by decide +kernel, by decide +kernel⟩
theorem zy_187 : plainName (z_mY 187).cls = true ∧ (187 : Nat) ≠ 128 ∧ (187 : Nat) ≠ 299 := ⟨by decide +kernel, by decide, by decide⟩
theorem zcl_187 : z_cls[12]? = some ((z_mY 187).cls, TX12, 39) := rfl
theorem zc_188 : ∀ m, z_ce m 188 0 := fun _ => ⟨z_inT (i := 1358) (by decide +kernel) (by decide +kernel), by decide +kernel, by decide +kernel⟩
theorem zy_188 : plainName (z_mY 188).cls = true ∧ (188 : Nat) ≠ 128 ∧ (188 : Nat) ≠ 299 := ⟨by decide +kernel, by decide, by decide⟩
theorem zcl_188 : z_cls[12]? = some ((z_mY 188).cls, TX12, 39) := rfl
theorem zc_184 : ∀ m, z_ce m 184 1 := fun _ => ⟨z_inT (i := 1409) (by decide +kernel) (by decide +kernel), by decide +kernel, by decide +kernel⟩
theorem zy_184 : plainName (z_mY 184).cls = true ∧ (184 : Nat) ≠ 128 ∧ (184 : Nat) ≠ 299 := ⟨by decide +kernel, by decide, by decide⟩
theorem zcl_184 : z_cls[12]? = some ((z_mY 184).cls, TX12, 39) := rfl
theorem zc_190 : ∀ m, z_ce m 190 1 := fun _ => ⟨z_inT (i := 1404) (by decide +kernel) (by decide +kernel), by decide +kernel, by decide +kernel⟩
theorem zy_190 : plainName (z_mY 190).cls = true ∧ (190 : Nat) ≠ 128 ∧ (190 : Nat) ≠ 299 := ⟨by decide +kernel, by decide, by decide⟩
theorem zcl_190 : z_cls[12]? = some ((z_mY 190).cls, TX12, 39) := rfl
theorem zc_189 : ∀ m, z_ce m 189 0 := fun _ => ⟨z_inT (i := 1354) (by decide +kernel) (by decide +kernel), by decide +kernel, by decide +kernel⟩
theorem zy_189 : plainName (z_mY 189).cls = true ∧ (189 : Nat) ≠ 128 ∧ (189 : Nat) ≠ 299 := ⟨by decide +kernel, by decide, by decide⟩
theorem zcl_189 : z_cls[12]? = some ((z_mY 189).cls, TX12, 39) := rfl
theorem zc_191 : ∀ m, z_ce m 191 1 := fun _ => ⟨z_inT (i := 1400) (by decide +kernel) (by decide +kernel), by decide +kernel, by decide +kernel⟩
theorem zy_191 : plainName (z_mY 191).cls = true ∧ (191 : Nat) ≠ 128 ∧ (191 : Nat) ≠ 299 := ⟨by decide +kernel, by decide, by decide⟩
theorem zcl_191 : z_cls[12]? = some ((z_mY 191).cls, TX12, 39) := rfl
theorem zc_198 : ∀ m, z_ce m 198 1 := fun _ => ⟨z_inT (i := 1454) (by decide +kernel) (by decide +kernel), by decide +kernel, by decide +kernel⟩
theorem zy_198 : plainName (z_mY 198).cls = true ∧ (198 : Nat) ≠ 128 ∧ (198 : Nat) ≠ 299 := ⟨by decide +kernel, by decide, by decide⟩
theorem zw_1458 : Cond.methodLink (z_mY 200).cls 171 Lib.Math.min.name ∈ z_TB := z_inT (i := 1458) (by decide +kernel) (by decide +kernel)
theorem zw_1459 : Cond.methodLink (z_mY 200).cls 176 Lib.Math.max.name ∈ z_TB := z_inT (i := 1459) (by decide +kernel) (by decide +kernel)
theorem zc_196 : ∀ m, z_ce m 196 2 := fun _ => ⟨z_inT (i := 1448) (by decide +kernel) (by decide +kernel), by decide +kernel, by decide +kernel⟩
theorem zy_196 : plainName (z_mY 196).cls = true ∧ (196 : Nat) ≠ 128 ∧ (196 : Nat) ≠ 299 := ⟨by decide +kernel, by decide, by decide⟩
theorem zcl_196 : z_cls[12]? = some ((z_mY 196).cls, TX12, 39) := rfl
theorem zc_199 : ∀ m, z_ce m 199 6 := fun _ => ⟨z_inT (i := 1451) (by decide +kernel) (by decide +kernel), by decide +kernel, by decide +kernel⟩
theorem zy_199 : plainName (z_mY 199).cls = true ∧ (199 : Nat) ≠ 128 ∧ (199 : Nat) ≠ 299 := ⟨by decide +kernel, by decide, by decide⟩
theorem zc_200 : ∀ m, z_ce m 200 4 := fun _ => ⟨z_inT (i := 1457) (by decide +kernel) (by decide +kernel), by decide +kernel, by decide +kernel⟩
theorem zy_200 : plainName (z_mY 200).cls = true ∧ (200 : Nat) ≠ 128 ∧ (200 : Nat) ≠ 299 := ⟨by decide +kernel, by decide, by decide⟩
theorem zc_195 : ∀ m, z_ce m 195 1 := fun _ => ⟨z_inT (i := 1440) (by decide +kernel) (by decide +kernel), by decide +kernel, by decide +kernel⟩
theorem zy_195 : plainName (z_mY 195).cls = true ∧ (195 : Nat) ≠ 128 ∧ (195 : Nat) ≠ 299 := ⟨by decide +kernel, by decide, by decide⟩
theorem zcl_195 : z_cls[12]? = some ((z_mY 195).cls, TX12, 39) := rfl
theorem zc_201 : ∀ m, z_ce m 201 5 := fun _ => ⟨z_inT (i := 1444) (by decide +kernel) (by decide +kernel), by decide +kernel, by decide +kernel⟩
theorem zy_201 : plainName (z_mY 201).cls = true ∧ (201 : Nat) ≠ 128 ∧ (201 : Nat) ≠ 299 := ⟨by decide +kernel, by decide, by decide⟩
theorem zcl_201 : z_cls[12]? = some ((z_mY 201).cls, TX12, 39) := rfl
theorem zc_204 : ∀ m, z_ce m 204 3 := fun _ => ⟨z_inT (i := 1535) (by decide +kernel) (by decide +kernel), by decide +kernel, by decide +kernel⟩
theorem zy_204 : plainName (z_mY 204).cls = true ∧ (204 : Nat) ≠ 128 ∧ (204 : Nat) ≠ 299 := ⟨by decide +kernel, by decide, by decide⟩
theorem zcl_204 : z_cls[12]? = some ((z_mY 204).cls, TX12, 39) := rfl
theorem zc_203 : ∀ m, z_ce m 203 1 := fun _ => ⟨z_inT (i := 1527) (by decide +kernel) (by decide +kernel), by decide +kernel, by decide +kernel⟩
theorem zy_203 : plainName (z_mY 203).cls = true ∧ (203 : Nat) ≠ 128 ∧ (203 : Nat) ≠ 299 := ⟨by decide +kernel, by decide, by decide⟩
theorem zcl_203 : z_cls[12]? = some ((z_mY 203).cls, TX12, 39) := rfl
theorem zc_205 : ∀ m, z_ce m 205 2 := fun _ => ⟨z_inT (i := 1531) (by decide +kernel) (by decide +kernel), by decide +kernel, by decide +kernel⟩
theorem zy_205 : plainName (z_mY 205).cls = true ∧ (205 : Nat) ≠ 128 ∧ (205 : Nat) ≠ 299 := ⟨by decide +kernel, by decide, by decide⟩
theorem zcl_205 : z_cls[12]? = some ((z_mY 205).cls, TX12, 39) := rfl
theorem zc_194 : ∀ m, z_ce m 194 2 := fun _ => ⟨z_inT (i := 1432) (by decide +kernel) (by decide +kernel), by decide +kernel, by decide +kernel⟩
theorem zy_194 : plainName (z_mY 194).cls = true ∧ (194 : Nat) ≠ 128 ∧ (194 : Nat) ≠ 299 := ⟨by decide +kernel, by decide, by decide⟩
theorem zcl_194 : z_cls[12]? = some ((z_mY 194).cls, TX12, 39) := rfl
theorem zc_206 : ∀ m, z_ce m 206 0 := fun _ => ⟨z_inT (i := 1523) (by decide +kernel) (by decide +kernel), by decide +kernel, by decide +kernel⟩
theorem zy_206 : plainName (z_mY 206).cls = true ∧ (206 : Nat) ≠ 128 ∧ (206 : Nat) ≠ 299 := ⟨by decide +kernel, by decide, by decide⟩
theorem zcl_206 : z_cls[12]? = some ((z_mY 206).cls, TX12, 39) := rfl
theorem zc_208 : ∀ m, z_ce m 208 1 := fun _ => ⟨z_inT (i := 1604) (by decide +kernel) (by decide +kernel), by decide +kernel, by decide +kernel⟩
theorem zy_208 : plainName (z_mY 208).cls = true ∧ (208 : Nat) ≠ 128 ∧ (208 : Nat) ≠ 299 := ⟨by decide +kernel, by decide, by decide⟩
theorem zcl_208 : z_cls[12]? = some ((z_mY 208).cls, TX12, 39) := rfl
theorem zc_209 : ∀ m, z_ce m 209 3 := fun _ => ⟨z_inT (i := 1632) (by decide +kernel) (by decide +kernel), by decide +kernel, by decide +kernel⟩
theorem zy_209 : plainName (z_mY 209).cls = true ∧ (209 : Nat) ≠ 128 ∧ (209 : Nat) ≠ 299 := ⟨by decide +kernel, by decide, by decide⟩
theorem zcl_209 : z_cls[12]? = some ((z_mY 209).cls, TX12, 39) := rfl
theorem zc_210 : ∀ m, z_ce m 210 2 := fun _ => ⟨z_inT (i := 1628) (by decide +kernel) (by decide +kernel), by decide +kernel, by decide +kernel⟩
theorem zy_210 : plainName (z_mY 210).cls = true ∧ (210 : Nat) ≠ 128 ∧ (210 : Nat) ≠ 299 := ⟨by decide +kernel, by decide, by decide⟩
theorem zcl_210 : z_cls[12]? = some ((z_mY 210).cls, TX12, 39) := rfl
theorem zc_211 : ∀ m, z_ce m 211 2 := fun _ => ⟨z_inT (i := 1624) (by decide +kernel) (by decide +kernel), by decide +kernel, by decide +kernel⟩
theorem zy_211 : plainName (z_mY 211).cls = true ∧ (211 : Nat) ≠ 128 ∧ (211 : Nat) ≠ 299 := ⟨by decide +kernel, by decide, by decide⟩
