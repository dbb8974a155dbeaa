theorem z_inT {i : Nat} {w : Cond} (h : lw_tbl[i]? = some w) (hg : goodWord w = true) : w ∈ z_TB := List.mem_filter.mpr ⟨List.mem_of_getElem? h, hg⟩
theorem zw_313 : Cond.methodLink (z_mY 0).cls 3 objectInit ∈ z_TB := z_inT (i := 313) (by decide +kernel) (by decide +kernel)
theorem zw_145 : Cond.instanceMethod objectInit ∈ z_TB := z_inT (i := 145) (by decide +kernel) (by decide +kernel)
theorem zw_146 : Cond.code objectInit ⟨#[0xb1]⟩ 1 none ∈ z_TB := z_inT (i := 146) (by decide +kernel) (by decide +kernel)
theorem zw_314 : Cond.fieldLink (z_mY 1).cls 9 "SlabMap$Act" "sort" "I" ∈ z_TB := z_inT (i := 314) (by decide +kernel) (by decide +kernel)
theorem zw_319 : Cond.fieldLink (z_mY 1).cls 15 "SlabMap$Act" "x" "I" ∈ z_TB := z_inT (i := 319) (by decide +kernel) (by decide +kernel)
theorem zw_321 : Cond.fieldLink (z_mY 1).cls 18 "SlabMap$Act" "y" "I" ∈ z_TB := z_inT (i := 321) (by decide +kernel) (by decide +kernel)
theorem zw_323 : Cond.fieldLink (z_mY 1).cls 21 "SlabMap$Act" "toX" "I" ∈ z_TB := z_inT (i := 323) (by decide +kernel) (by decide +kernel)
theorem zw_325 : Cond.fieldLink (z_mY 1).cls 24 "SlabMap$Act" "toY" "I" ∈ z_TB := z_inT (i := 325) (by decide +kernel) (by decide +kernel)
theorem zw_327 : Cond.fieldLink (z_mY 1).cls 27 "SlabMap$Act" "region" "I" ∈ z_TB := z_inT (i := 327) (by decide +kernel) (by decide +kernel)
theorem zw_317 : Cond.fieldLink (z_mY 2).cls 30 "SlabMap$Act" "edge" "I" ∈ z_TB := z_inT (i := 317) (by decide +kernel) (by decide +kernel)
theorem zw_179 : Cond.fieldLink (z_mY 5).cls 33 "SlabMap$Steps" "numbers" "[I" ∈ z_TB := z_inT (i := 179) (by decide +kernel) (by decide +kernel)
theorem zc_6 : ∀ m, z_ce m 6 3 := fun _ => ⟨z_inT (i := 554) (by decide +kernel) (by decide +kernel), by decide +kernel, by decide +kernel⟩
theorem zy_6 : plainName (z_mY 6).cls = true := by decide +kernel
theorem zw_126 : Cond.initialized "SlabMap$Act" ∈ z_TB := z_inT (i := 126) (by decide +kernel) (by decide +kernel)
theorem zw_1077 : Cond.methodLink (z_mY 5).cls 39 (z_mY 6) ∈ z_TB := z_inT (i := 1077) (by decide +kernel) (by decide +kernel)
theorem zw_552 : Cond.instanceMethod (z_mY 6) ∈ z_TB := z_inT (i := 552) (by decide +kernel) (by decide +kernel)
theorem zw_553 : Cond.selects (z_mY 6).cls (z_mY 6) (z_mY 6) ∈ z_TB := z_inT (i := 553) (by decide +kernel) (by decide +kernel)
theorem zcl_6 : z_cls[0]? = some ((z_mY 6).cls, TX0, 7) := rfl
theorem zc_1 : ∀ m, z_ce m 1 5 := fun _ => ⟨z_inT (i := 559) (by decide +kernel) (by decide +kernel), by decide +kernel, by decide +kernel⟩
theorem zy_1 : plainName (z_mY 1).cls = true := by decide +kernel
theorem zw_556 : Cond.methodLink (z_mY 6).cls 46 (z_mY 1) ∈ z_TB := z_inT (i := 556) (by decide +kernel) (by decide +kernel)
theorem zw_557 : Cond.instanceMethod (z_mY 1) ∈ z_TB := z_inT (i := 557) (by decide +kernel) (by decide +kernel)
theorem zw_558 : Cond.selects (z_mY 1).cls (z_mY 1) (z_mY 1) ∈ z_TB := z_inT (i := 558) (by decide +kernel) (by decide +kernel)
theorem zcl_1 : z_cls[0]? = some ((z_mY 1).cls, TX0, 7) := rfl
theorem zc_2 : ∀ m, z_ce m 2 1 := fun _ => ⟨z_inT (i := 563) (by decide +kernel) (by decide +kernel), by decide +kernel, by decide +kernel⟩
theorem zy_2 : plainName (z_mY 2).cls = true := by decide +kernel
theorem zw_560 : Cond.methodLink (z_mY 6).cls 50 (z_mY 2) ∈ z_TB := z_inT (i := 560) (by decide +kernel) (by decide +kernel)
theorem zw_561 : Cond.instanceMethod (z_mY 2) ∈ z_TB := z_inT (i := 561) (by decide +kernel) (by decide +kernel)
theorem zw_562 : Cond.selects (z_mY 2).cls (z_mY 2) (z_mY 2) ∈ z_TB := z_inT (i := 562) (by decide +kernel) (by decide +kernel)
theorem zcl_2 : z_cls[0]? = some ((z_mY 2).cls, TX0, 7) := rfl
theorem zc_3 : ∀ m, z_ce m 3 2 := fun _ => ⟨z_inT (i := 567) (by decide +kernel) (by decide +kernel), by decide +kernel, by decide +kernel⟩
theorem zy_3 : plainName (z_mY 3).cls = true := by decide +kernel
theorem zw_564 : Cond.methodLink (z_mY 6).cls 54 (z_mY 3) ∈ z_TB := z_inT (i := 564) (by decide +kernel) (by decide +kernel)
theorem zw_565 : Cond.instanceMethod (z_mY 3) ∈ z_TB := z_inT (i := 565) (by decide +kernel) (by decide +kernel)
theorem zw_566 : Cond.selects (z_mY 3).cls (z_mY 3) (z_mY 3) ∈ z_TB := z_inT (i := 566) (by decide +kernel) (by decide +kernel)
theorem zcl_3 : z_cls[0]? = some ((z_mY 3).cls, TX0, 7) := rfl
theorem zc_4 : ∀ m, z_ce m 4 2 := fun _ => ⟨z_inT (i := 571) (by decide +kernel) (by decide +kernel), by decide +kernel, by decide +kernel⟩
theorem zy_4 : plainName (z_mY 4).cls = true := by decide +kernel
theorem zw_568 : Cond.methodLink (z_mY 6).cls 58 (z_mY 4) ∈ z_TB := z_inT (i := 568) (by decide +kernel) (by decide +kernel)
theorem zw_569 : Cond.instanceMethod (z_mY 4) ∈ z_TB := z_inT (i := 569) (by decide +kernel) (by decide +kernel)
theorem zw_570 : Cond.selects (z_mY 4).cls (z_mY 4) (z_mY 4) ∈ z_TB := z_inT (i := 570) (by decide +kernel) (by decide +kernel)
theorem zcl_4 : z_cls[0]? = some ((z_mY 4).cls, TX0, 7) := rfl
theorem zw_371 : Cond.methodLink (z_mY 8).cls 3 objectInit ∈ z_TB := z_inT (i := 371) (by decide +kernel) (by decide +kernel)
theorem zw_163 : Cond.arrayClass .int ∈ z_TB := z_inT (i := 163) (by decide +kernel) (by decide +kernel)
theorem zw_374 : Cond.fieldLink (z_mY 8).cls 9 "SlabMap$Colours" "colour" "[I" ∈ z_TB := z_inT (i := 374) (by decide +kernel) (by decide +kernel)
theorem zw_372 : Cond.fieldLink (z_mY 9).cls 15 "SlabMap$Colours" "many" "I" ∈ z_TB := z_inT (i := 372) (by decide +kernel) (by decide +kernel)
theorem zc_11 : ∀ m, z_ce m 11 5 := fun _ => ⟨z_inT (i := 847) (by decide +kernel) (by decide +kernel), by decide +kernel, by decide +kernel⟩
theorem zy_11 : plainName (z_mY 11).cls = true := by decide +kernel
theorem zw_128 : Cond.initialized "SlabMap$Colours" ∈ z_TB := z_inT (i := 128) (by decide +kernel) (by decide +kernel)
theorem zw_845 : Cond.methodLink (z_mY 9).cls 19 (z_mY 11) ∈ z_TB := z_inT (i := 845) (by decide +kernel) (by decide +kernel)
theorem zw_846 : Cond.static (z_mY 11) ∈ z_TB := z_inT (i := 846) (by decide +kernel) (by decide +kernel)
theorem zc_167 : ∀ m, z_ce m 167 1 := fun _ => ⟨z_inT (i := 585) (by decide +kernel) (by decide +kernel), by decide +kernel, by decide +kernel⟩
theorem zy_167 : plainName (z_mY 167).cls = true := by decide +kernel
theorem zw_117 : Cond.initialized "SlabMap" ∈ z_TB := z_inT (i := 117) (by decide +kernel) (by decide +kernel)
theorem zw_584 : Cond.static (z_mY 167) ∈ z_TB := z_inT (i := 584) (by decide +kernel) (by decide +kernel)
theorem zc_12 : ∀ m, z_ce m 12 4 := fun _ => ⟨z_inT (i := 850) (by decide +kernel) (by decide +kernel), by decide +kernel, by decide +kernel⟩
theorem zy_12 : plainName (z_mY 12).cls = true := by decide +kernel
theorem zw_848 : Cond.methodLink (z_mY 11).cls 27 (z_mY 12) ∈ z_TB := z_inT (i := 848) (by decide +kernel) (by decide +kernel)
theorem zw_849 : Cond.static (z_mY 12) ∈ z_TB := z_inT (i := 849) (by decide +kernel) (by decide +kernel)
theorem zc_296 : ∀ m, z_ce m 296 2 := fun _ => ⟨z_inT (i := 622) (by decide +kernel) (by decide +kernel), by decide +kernel, by decide +kernel⟩
theorem zy_296 : plainName (z_mY 296).cls = true := by decide +kernel
theorem zw_131 : Cond.initialized "java/lang/Math" ∈ z_TB := z_inT (i := 131) (by decide +kernel) (by decide +kernel)
theorem zw_851 : Cond.methodLink (z_mY 11).cls 31 (z_mY 296) ∈ z_TB := z_inT (i := 851) (by decide +kernel) (by decide +kernel)
theorem zw_621 : Cond.static (z_mY 296) ∈ z_TB := z_inT (i := 621) (by decide +kernel) (by decide +kernel)
theorem zw_908 : Cond.methodLink (z_mY 13).cls 1 objectInit ∈ z_TB := z_inT (i := 908) (by decide +kernel) (by decide +kernel)
theorem zw_909 : Cond.fieldLink (z_mY 13).cls 7 "SlabMap$Draws" "x" "J" ∈ z_TB := z_inT (i := 909) (by decide +kernel) (by decide +kernel)
theorem zw_921 : Cond.constantLong (z_mY 14).cls 13 (6364136223846793005) ∈ z_TB := z_inT (i := 921) (by decide +kernel) (by decide +kernel)
theorem zw_922 : Cond.constantLong (z_mY 14).cls 15 (1442695040888963407) ∈ z_TB := z_inT (i := 922) (by decide +kernel) (by decide +kernel)
theorem zw_222 : Cond.methodLink (z_mY 15).cls 3 objectInit ∈ z_TB := z_inT (i := 222) (by decide +kernel) (by decide +kernel)
theorem zw_226 : Cond.fieldLink (z_mY 15).cls 11 "SlabMap$Edges" "row" "[I" ∈ z_TB := z_inT (i := 226) (by decide +kernel) (by decide +kernel)
theorem zc_298 : ∀ m, z_ce m 298 2 := fun _ => ⟨z_inT (i := 225) (by decide +kernel) (by decide +kernel), by decide +kernel, by decide +kernel⟩
theorem zy_298 : plainName (z_mY 298).cls = true := by decide +kernel
theorem zw_122 : Cond.initialized "java/util/Arrays" ∈ z_TB := z_inT (i := 122) (by decide +kernel) (by decide +kernel)
theorem zw_223 : Cond.methodLink (z_mY 15).cls 15 (z_mY 298) ∈ z_TB := z_inT (i := 223) (by decide +kernel) (by decide +kernel)
theorem zw_224 : Cond.static (z_mY 298) ∈ z_TB := z_inT (i := 224) (by decide +kernel) (by decide +kernel)
theorem zw_228 : Cond.fieldLink (z_mY 16).cls 21 "SlabMap$Edges" "count" "I" ∈ z_TB := z_inT (i := 228) (by decide +kernel) (by decide +kernel)
theorem zw_775 : Cond.methodLink (z_mY 17).cls 25 arraycopyName ∈ z_TB := z_inT (i := 775) (by decide +kernel) (by decide +kernel)
theorem zw_545 : Cond.native arraycopyName ∈ z_TB := z_inT (i := 545) (by decide +kernel) (by decide +kernel)
theorem zw_544 : Cond.static arraycopyName ∈ z_TB := z_inT (i := 544) (by decide +kernel) (by decide +kernel)
theorem zw_130 : Cond.initialized "java/lang/System" ∈ z_TB := z_inT (i := 130) (by decide +kernel) (by decide +kernel)
theorem zc_19 : ∀ m, z_ce m 19 1 := fun _ => ⟨z_inT (i := 593) (by decide +kernel) (by decide +kernel), by decide +kernel, by decide +kernel⟩
theorem zy_19 : plainName (z_mY 19).cls = true := by decide +kernel
theorem zw_121 : Cond.initialized "SlabMap$Edges" ∈ z_TB := z_inT (i := 121) (by decide +kernel) (by decide +kernel)
theorem zw_590 : Cond.methodLink (z_mY 18).cls 31 (z_mY 19) ∈ z_TB := z_inT (i := 590) (by decide +kernel) (by decide +kernel)
theorem zw_591 : Cond.instanceMethod (z_mY 19) ∈ z_TB := z_inT (i := 591) (by decide +kernel) (by decide +kernel)
theorem zw_592 : Cond.selects (z_mY 19).cls (z_mY 19) (z_mY 19) ∈ z_TB := z_inT (i := 592) (by decide +kernel) (by decide +kernel)
theorem zcl_19 : z_cls[3]? = some ((z_mY 19).cls, TX3, 2) := rfl
theorem zc_26 : ∀ m, z_ce m 26 2 := fun _ => ⟨z_inT (i := 739) (by decide +kernel) (by decide +kernel), by decide +kernel, by decide +kernel⟩
theorem zy_26 : plainName (z_mY 26).cls = true := by decide +kernel
theorem zw_736 : Cond.methodLink (z_mY 27).cls 35 (z_mY 26) ∈ z_TB := z_inT (i := 736) (by decide +kernel) (by decide +kernel)
theorem zw_737 : Cond.instanceMethod (z_mY 26) ∈ z_TB := z_inT (i := 737) (by decide +kernel) (by decide +kernel)
theorem zw_738 : Cond.selects (z_mY 26).cls (z_mY 26) (z_mY 26) ∈ z_TB := z_inT (i := 738) (by decide +kernel) (by decide +kernel)
theorem zcl_26 : z_cls[3]? = some ((z_mY 26).cls, TX3, 2) := rfl
theorem zc_25 : ∀ m, z_ce m 25 1 := fun _ => ⟨z_inT (i := 743) (by decide +kernel) (by decide +kernel), by decide +kernel, by decide +kernel⟩
theorem zy_25 : plainName (z_mY 25).cls = true := by decide +kernel
theorem zw_740 : Cond.methodLink (z_mY 27).cls 39 (z_mY 25) ∈ z_TB := z_inT (i := 740) (by decide +kernel) (by decide +kernel)
theorem zw_741 : Cond.instanceMethod (z_mY 25) ∈ z_TB := z_inT (i := 741) (by decide +kernel) (by decide +kernel)
theorem zw_742 : Cond.selects (z_mY 25).cls (z_mY 25) (z_mY 25) ∈ z_TB := z_inT (i := 742) (by decide +kernel) (by decide +kernel)
theorem zcl_25 : z_cls[3]? = some ((z_mY 25).cls, TX3, 2) := rfl
theorem zc_20 : ∀ m, z_ce m 20 1 := fun _ => ⟨z_inT (i := 601) (by decide +kernel) (by decide +kernel), by decide +kernel, by decide +kernel⟩
theorem zy_20 : plainName (z_mY 20).cls = true := by decide +kernel
theorem zw_598 : Cond.methodLink (z_mY 31).cls 43 (z_mY 20) ∈ z_TB := z_inT (i := 598) (by decide +kernel) (by decide +kernel)
theorem zw_599 : Cond.instanceMethod (z_mY 20) ∈ z_TB := z_inT (i := 599) (by decide +kernel) (by decide +kernel)
theorem zw_600 : Cond.selects (z_mY 20).cls (z_mY 20) (z_mY 20) ∈ z_TB := z_inT (i := 600) (by decide +kernel) (by decide +kernel)
theorem zcl_20 : z_cls[3]? = some ((z_mY 20).cls, TX3, 2) := rfl
theorem zc_21 : ∀ m, z_ce m 21 1 := fun _ => ⟨z_inT (i := 605) (by decide +kernel) (by decide +kernel), by decide +kernel, by decide +kernel⟩
theorem zy_21 : plainName (z_mY 21).cls = true := by decide +kernel
theorem zw_602 : Cond.methodLink (z_mY 31).cls 46 (z_mY 21) ∈ z_TB := z_inT (i := 602) (by decide +kernel) (by decide +kernel)
theorem zw_603 : Cond.instanceMethod (z_mY 21) ∈ z_TB := z_inT (i := 603) (by decide +kernel) (by decide +kernel)
theorem zw_604 : Cond.selects (z_mY 21).cls (z_mY 21) (z_mY 21) ∈ z_TB := z_inT (i := 604) (by decide +kernel) (by decide +kernel)
theorem zcl_21 : z_cls[3]? = some ((z_mY 21).cls, TX3, 2) := rfl
theorem zc_22 : ∀ m, z_ce m 22 1 := fun _ => ⟨z_inT (i := 609) (by decide +kernel) (by decide +kernel), by decide +kernel, by decide +kernel⟩
theorem zy_22 : plainName (z_mY 22).cls = true := by decide +kernel
theorem zw_606 : Cond.methodLink (z_mY 31).cls 49 (z_mY 22) ∈ z_TB := z_inT (i := 606) (by decide +kernel) (by decide +kernel)
theorem zw_607 : Cond.instanceMethod (z_mY 22) ∈ z_TB := z_inT (i := 607) (by decide +kernel) (by decide +kernel)
theorem zw_608 : Cond.selects (z_mY 22).cls (z_mY 22) (z_mY 22) ∈ z_TB := z_inT (i := 608) (by decide +kernel) (by decide +kernel)
theorem zcl_22 : z_cls[3]? = some ((z_mY 22).cls, TX3, 2) := rfl
theorem zc_23 : ∀ m, z_ce m 23 1 := fun _ => ⟨z_inT (i := 613) (by decide +kernel) (by decide +kernel), by decide +kernel, by decide +kernel⟩
theorem zy_23 : plainName (z_mY 23).cls = true := by decide +kernel
theorem zw_610 : Cond.methodLink (z_mY 31).cls 52 (z_mY 23) ∈ z_TB := z_inT (i := 610) (by decide +kernel) (by decide +kernel)
theorem zw_611 : Cond.instanceMethod (z_mY 23) ∈ z_TB := z_inT (i := 611) (by decide +kernel) (by decide +kernel)
theorem zw_612 : Cond.selects (z_mY 23).cls (z_mY 23) (z_mY 23) ∈ z_TB := z_inT (i := 612) (by decide +kernel) (by decide +kernel)
theorem zcl_23 : z_cls[3]? = some ((z_mY 23).cls, TX3, 2) := rfl
theorem zc_33 : ∀ m, z_ce m 33 6 := fun _ => ⟨z_inT (i := 616) (by decide +kernel) (by decide +kernel), by decide +kernel, by decide +kernel⟩
theorem zy_33 : plainName (z_mY 33).cls = true := by decide +kernel
theorem zw_614 : Cond.methodLink (z_mY 31).cls 55 (z_mY 33) ∈ z_TB := z_inT (i := 614) (by decide +kernel) (by decide +kernel)
theorem zw_615 : Cond.static (z_mY 33) ∈ z_TB := z_inT (i := 615) (by decide +kernel) (by decide +kernel)
theorem zc_297 : ∀ m, z_ce m 297 2 := fun _ => ⟨z_inT (i := 619) (by decide +kernel) (by decide +kernel), by decide +kernel, by decide +kernel⟩
theorem zy_297 : plainName (z_mY 297).cls = true := by decide +kernel
theorem zw_617 : Cond.methodLink (z_mY 31).cls 59 (z_mY 297) ∈ z_TB := z_inT (i := 617) (by decide +kernel) (by decide +kernel)
theorem zw_618 : Cond.static (z_mY 297) ∈ z_TB := z_inT (i := 618) (by decide +kernel) (by decide +kernel)
theorem zw_620 : Cond.methodLink (z_mY 31).cls 64 (z_mY 296) ∈ z_TB := z_inT (i := 620) (by decide +kernel) (by decide +kernel)
theorem zc_32 : ∀ m, z_ce m 32 2 := fun _ => ⟨z_inT (i := 625) (by decide +kernel) (by decide +kernel), by decide +kernel, by decide +kernel⟩
theorem zy_32 : plainName (z_mY 32).cls = true := by decide +kernel
theorem zw_623 : Cond.methodLink (z_mY 31).cls 67 (z_mY 32) ∈ z_TB := z_inT (i := 623) (by decide +kernel) (by decide +kernel)
theorem zw_624 : Cond.static (z_mY 32) ∈ z_TB := z_inT (i := 624) (by decide +kernel) (by decide +kernel)
theorem zc_31 : ∀ m, z_ce m 31 5 := fun _ => ⟨z_inT (i := 597) (by decide +kernel) (by decide +kernel), by decide +kernel, by decide +kernel⟩
theorem zy_31 : plainName (z_mY 31).cls = true := by decide +kernel
theorem zw_594 : Cond.methodLink (z_mY 34).cls 71 (z_mY 31) ∈ z_TB := z_inT (i := 594) (by decide +kernel) (by decide +kernel)
theorem zw_595 : Cond.instanceMethod (z_mY 31) ∈ z_TB := z_inT (i := 595) (by decide +kernel) (by decide +kernel)
theorem zw_596 : Cond.selects (z_mY 31).cls (z_mY 31) (z_mY 31) ∈ z_TB := z_inT (i := 596) (by decide +kernel) (by decide +kernel)
theorem zcl_31 : z_cls[3]? = some ((z_mY 31).cls, TX3, 2) := rfl
theorem zw_315 : Cond.fieldLink (z_mY 35).cls 75 "SlabMap$Act" "sort" "I" ∈ z_TB := z_inT (i := 315) (by decide +kernel) (by decide +kernel)
theorem zc_36 : ∀ m, z_ce m 36 1 := fun _ => ⟨z_inT (i := 579) (by decide +kernel) (by decide +kernel), by decide +kernel, by decide +kernel⟩
theorem zy_36 : plainName (z_mY 36).cls = true := by decide +kernel
theorem zw_576 : Cond.methodLink (z_mY 35).cls 80 (z_mY 36) ∈ z_TB := z_inT (i := 576) (by decide +kernel) (by decide +kernel)
theorem zw_578 : Cond.instanceMethod (z_mY 36) ∈ z_TB := z_inT (i := 578) (by decide +kernel) (by decide +kernel)
theorem zw_13 : Cond.selects (z_mY 36).cls (z_mY 36) (z_mY 36) ∈ z_TB := z_inT (i := 13) (by decide +kernel) (by decide +kernel)
theorem zcl_36 : z_cls[3]? = some ((z_mY 36).cls, TX3, 2) := rfl
theorem zw_318 : Cond.fieldLink (z_mY 35).cls 84 "SlabMap$Act" "edge" "I" ∈ z_TB := z_inT (i := 318) (by decide +kernel) (by decide +kernel)
theorem zc_37 : ∀ m, z_ce m 37 1 := fun _ => ⟨z_inT (i := 629) (by decide +kernel) (by decide +kernel), by decide +kernel, by decide +kernel⟩
theorem zy_37 : plainName (z_mY 37).cls = true := by decide +kernel
theorem zw_626 : Cond.methodLink (z_mY 35).cls 87 (z_mY 37) ∈ z_TB := z_inT (i := 626) (by decide +kernel) (by decide +kernel)
theorem zw_628 : Cond.instanceMethod (z_mY 37) ∈ z_TB := z_inT (i := 628) (by decide +kernel) (by decide +kernel)
theorem zw_14 : Cond.selects (z_mY 37).cls (z_mY 37) (z_mY 37) ∈ z_TB := z_inT (i := 14) (by decide +kernel) (by decide +kernel)
theorem zcl_37 : z_cls[3]? = some ((z_mY 37).cls, TX3, 2) := rfl
theorem zc_38 : ∀ m, z_ce m 38 1 := fun _ => ⟨z_inT (i := 637) (by decide +kernel) (by decide +kernel), by decide +kernel, by decide +kernel⟩
theorem zy_38 : plainName (z_mY 38).cls = true := by decide +kernel
theorem zw_634 : Cond.methodLink (z_mY 35).cls 90 (z_mY 38) ∈ z_TB := z_inT (i := 634) (by decide +kernel) (by decide +kernel)
theorem zw_636 : Cond.instanceMethod (z_mY 38) ∈ z_TB := z_inT (i := 636) (by decide +kernel) (by decide +kernel)
theorem zw_15 : Cond.selects (z_mY 38).cls (z_mY 38) (z_mY 38) ∈ z_TB := z_inT (i := 15) (by decide +kernel) (by decide +kernel)
theorem zcl_38 : z_cls[3]? = some ((z_mY 38).cls, TX3, 2) := rfl
theorem zw_320 : Cond.fieldLink (z_mY 36).cls 93 "SlabMap$Act" "x" "I" ∈ z_TB := z_inT (i := 320) (by decide +kernel) (by decide +kernel)
theorem zw_322 : Cond.fieldLink (z_mY 36).cls 95 "SlabMap$Act" "y" "I" ∈ z_TB := z_inT (i := 322) (by decide +kernel) (by decide +kernel)
theorem zc_166 : ∀ m, z_ce m 166 2 := fun _ => ⟨z_inT (i := 582) (by decide +kernel) (by decide +kernel), by decide +kernel, by decide +kernel⟩
theorem zy_166 : plainName (z_mY 166).cls = true := by decide +kernel
theorem zw_581 : Cond.static (z_mY 166) ∈ z_TB := z_inT (i := 581) (by decide +kernel) (by decide +kernel)
theorem zw_324 : Cond.fieldLink (z_mY 36).cls 100 "SlabMap$Act" "toX" "I" ∈ z_TB := z_inT (i := 324) (by decide +kernel) (by decide +kernel)
theorem zw_326 : Cond.fieldLink (z_mY 36).cls 102 "SlabMap$Act" "toY" "I" ∈ z_TB := z_inT (i := 326) (by decide +kernel) (by decide +kernel)
theorem zw_328 : Cond.fieldLink (z_mY 36).cls 104 "SlabMap$Act" "region" "I" ∈ z_TB := z_inT (i := 328) (by decide +kernel) (by decide +kernel)
theorem zc_34 : ∀ m, z_ce m 34 4 := fun _ => ⟨z_inT (i := 589) (by decide +kernel) (by decide +kernel), by decide +kernel, by decide +kernel⟩
theorem zy_34 : plainName (z_mY 34).cls = true := by decide +kernel
theorem zw_586 : Cond.methodLink (z_mY 36).cls 110 (z_mY 34) ∈ z_TB := z_inT (i := 586) (by decide +kernel) (by decide +kernel)
theorem zw_587 : Cond.instanceMethod (z_mY 34) ∈ z_TB := z_inT (i := 587) (by decide +kernel) (by decide +kernel)
theorem zw_588 : Cond.selects (z_mY 34).cls (z_mY 34) (z_mY 34) ∈ z_TB := z_inT (i := 588) (by decide +kernel) (by decide +kernel)
theorem zcl_34 : z_cls[3]? = some ((z_mY 34).cls, TX3, 2) := rfl
theorem zc_24 : ∀ m, z_ce m 24 1 := fun _ => ⟨z_inT (i := 633) (by decide +kernel) (by decide +kernel), by decide +kernel, by decide +kernel⟩
theorem zy_24 : plainName (z_mY 24).cls = true := by decide +kernel
theorem zw_630 : Cond.methodLink (z_mY 37).cls 114 (z_mY 24) ∈ z_TB := z_inT (i := 630) (by decide +kernel) (by decide +kernel)
theorem zw_631 : Cond.instanceMethod (z_mY 24) ∈ z_TB := z_inT (i := 631) (by decide +kernel) (by decide +kernel)
theorem zw_632 : Cond.selects (z_mY 24).cls (z_mY 24) (z_mY 24) ∈ z_TB := z_inT (i := 632) (by decide +kernel) (by decide +kernel)
theorem zcl_24 : z_cls[3]? = some ((z_mY 24).cls, TX3, 2) := rfl
theorem zc_39 : ∀ m, z_ce m 39 1 := fun _ => ⟨z_inT (i := 640) (by decide +kernel) (by decide +kernel), by decide +kernel, by decide +kernel⟩
theorem zy_39 : plainName (z_mY 39).cls = true := by decide +kernel
theorem zw_638 : Cond.methodLink (z_mY 38).cls 116 (z_mY 39) ∈ z_TB := z_inT (i := 638) (by decide +kernel) (by decide +kernel)
theorem zw_639 : Cond.static (z_mY 39) ∈ z_TB := z_inT (i := 639) (by decide +kernel) (by decide +kernel)
theorem zc_41 : ∀ m, z_ce m 41 1 := fun _ => ⟨z_inT (i := 648) (by decide +kernel) (by decide +kernel), by decide +kernel, by decide +kernel⟩
theorem zy_41 : plainName (z_mY 41).cls = true := by decide +kernel
theorem zw_645 : Cond.methodLink (z_mY 40).cls 119 (z_mY 41) ∈ z_TB := z_inT (i := 645) (by decide +kernel) (by decide +kernel)
theorem zw_647 : Cond.instanceMethod (z_mY 41) ∈ z_TB := z_inT (i := 647) (by decide +kernel) (by decide +kernel)
theorem zw_16 : Cond.selects (z_mY 41).cls (z_mY 41) (z_mY 41) ∈ z_TB := z_inT (i := 16) (by decide +kernel) (by decide +kernel)
theorem zcl_41 : z_cls[3]? = some ((z_mY 41).cls, TX3, 2) := rfl
theorem zc_42 : ∀ m, z_ce m 42 2 := fun _ => ⟨z_inT (i := 652) (by decide +kernel) (by decide +kernel), by decide +kernel, by decide +kernel⟩
theorem zy_42 : plainName (z_mY 42).cls = true := by decide +kernel
theorem zw_649 : Cond.methodLink (z_mY 40).cls 122 (z_mY 42) ∈ z_TB := z_inT (i := 649) (by decide +kernel) (by decide +kernel)
theorem zw_651 : Cond.instanceMethod (z_mY 42) ∈ z_TB := z_inT (i := 651) (by decide +kernel) (by decide +kernel)
theorem zw_17 : Cond.selects (z_mY 42).cls (z_mY 42) (z_mY 42) ∈ z_TB := z_inT (i := 17) (by decide +kernel) (by decide +kernel)
theorem zcl_42 : z_cls[3]? = some ((z_mY 42).cls, TX3, 2) := rfl
theorem zc_43 : ∀ m, z_ce m 43 1 := fun _ => ⟨z_inT (i := 656) (by decide +kernel) (by decide +kernel), by decide +kernel, by decide +kernel⟩
theorem zy_43 : plainName (z_mY 43).cls = true := by decide +kernel
theorem zw_653 : Cond.methodLink (z_mY 40).cls 125 (z_mY 43) ∈ z_TB := z_inT (i := 653) (by decide +kernel) (by decide +kernel)
theorem zw_655 : Cond.instanceMethod (z_mY 43) ∈ z_TB := z_inT (i := 655) (by decide +kernel) (by decide +kernel)
theorem zw_18 : Cond.selects (z_mY 43).cls (z_mY 43) (z_mY 43) ∈ z_TB := z_inT (i := 18) (by decide +kernel) (by decide +kernel)
theorem zcl_43 : z_cls[3]? = some ((z_mY 43).cls, TX3, 2) := rfl
theorem zc_44 : ∀ m, z_ce m 44 0 := fun _ => ⟨z_inT (i := 678) (by decide +kernel) (by decide +kernel), by decide +kernel, by decide +kernel⟩
theorem zy_44 : plainName (z_mY 44).cls = true := by decide +kernel
theorem zw_675 : Cond.methodLink (z_mY 45).cls 128 (z_mY 44) ∈ z_TB := z_inT (i := 675) (by decide +kernel) (by decide +kernel)
theorem zw_676 : Cond.instanceMethod (z_mY 44) ∈ z_TB := z_inT (i := 676) (by decide +kernel) (by decide +kernel)
theorem zw_677 : Cond.selects (z_mY 44).cls (z_mY 44) (z_mY 44) ∈ z_TB := z_inT (i := 677) (by decide +kernel) (by decide +kernel)
theorem zcl_44 : z_cls[3]? = some ((z_mY 44).cls, TX3, 2) := rfl
theorem zc_295 : ∀ m, z_ce m 295 1 := fun _ => ⟨z_inT (i := 681) (by decide +kernel) (by decide +kernel), by decide +kernel, by decide +kernel⟩
theorem zy_295 : plainName (z_mY 295).cls = true := by decide +kernel
theorem zw_132 : Cond.initialized "java/lang/Long" ∈ z_TB := z_inT (i := 132) (by decide +kernel) (by decide +kernel)
theorem zw_679 : Cond.methodLink (z_mY 45).cls 132 (z_mY 295) ∈ z_TB := z_inT (i := 679) (by decide +kernel) (by decide +kernel)
theorem zw_680 : Cond.static (z_mY 295) ∈ z_TB := z_inT (i := 680) (by decide +kernel) (by decide +kernel)
theorem zw_349 : Cond.methodLink (z_mY 49).cls 3 objectInit ∈ z_TB := z_inT (i := 349) (by decide +kernel) (by decide +kernel)
theorem zw_350 : Cond.fieldLink (z_mY 49).cls 11 "SlabMap$Ends" "edge" "[I" ∈ z_TB := z_inT (i := 350) (by decide +kernel) (by decide +kernel)
theorem zw_351 : Cond.fieldLink (z_mY 49).cls 15 "SlabMap$Ends" "firstLonger" "[I" ∈ z_TB := z_inT (i := 351) (by decide +kernel) (by decide +kernel)
theorem zw_352 : Cond.fieldLink (z_mY 49).cls 18 "SlabMap$Ends" "nextAside" "[I" ∈ z_TB := z_inT (i := 352) (by decide +kernel) (by decide +kernel)
theorem zw_353 : Cond.fieldLink (z_mY 49).cls 21 "SlabMap$Ends" "seen" "[I" ∈ z_TB := z_inT (i := 353) (by decide +kernel) (by decide +kernel)
theorem zw_354 : Cond.fieldLink (z_mY 50).cls 24 "SlabMap$Ends" "count" "I" ∈ z_TB := z_inT (i := 354) (by decide +kernel) (by decide +kernel)
theorem zc_53 : ∀ m, z_ce m 53 2 := fun _ => ⟨z_inT (i := 978) (by decide +kernel) (by decide +kernel), by decide +kernel, by decide +kernel⟩
theorem zy_53 : plainName (z_mY 53).cls = true := by decide +kernel
theorem zw_127 : Cond.initialized "SlabMap$Ends" ∈ z_TB := z_inT (i := 127) (by decide +kernel) (by decide +kernel)
theorem zw_975 : Cond.methodLink (z_mY 50).cls 28 (z_mY 53) ∈ z_TB := z_inT (i := 975) (by decide +kernel) (by decide +kernel)
theorem zw_977 : Cond.instanceMethod (z_mY 53) ∈ z_TB := z_inT (i := 977) (by decide +kernel) (by decide +kernel)
theorem zw_31 : Cond.selects (z_mY 53).cls (z_mY 53) (z_mY 53) ∈ z_TB := z_inT (i := 31) (by decide +kernel) (by decide +kernel)
theorem zcl_53 : z_cls[4]? = some ((z_mY 53).cls, TX4, 5) := rfl
theorem zc_51 : ∀ m, z_ce m 51 2 := fun _ => ⟨z_inT (i := 982) (by decide +kernel) (by decide +kernel), by decide +kernel, by decide +kernel⟩
theorem zy_51 : plainName (z_mY 51).cls = true := by decide +kernel
theorem zw_979 : Cond.methodLink (z_mY 50).cls 32 (z_mY 51) ∈ z_TB := z_inT (i := 979) (by decide +kernel) (by decide +kernel)
theorem zw_981 : Cond.instanceMethod (z_mY 51) ∈ z_TB := z_inT (i := 981) (by decide +kernel) (by decide +kernel)
theorem zw_32 : Cond.selects (z_mY 51).cls (z_mY 51) (z_mY 51) ∈ z_TB := z_inT (i := 32) (by decide +kernel) (by decide +kernel)
theorem zcl_51 : z_cls[4]? = some ((z_mY 51).cls, TX4, 5) := rfl
theorem zw_244 : Cond.fieldLink (z_mY 51).cls 36 "SlabMap$Slabs" "count" "I" ∈ z_TB := z_inT (i := 244) (by decide +kernel) (by decide +kernel)
theorem zc_91 : ∀ m, z_ce m 91 1 := fun _ => ⟨z_inT (i := 749) (by decide +kernel) (by decide +kernel), by decide +kernel, by decide +kernel⟩
theorem zy_91 : plainName (z_mY 91).cls = true := by decide +kernel
theorem zw_123 : Cond.initialized "SlabMap$Slabs" ∈ z_TB := z_inT (i := 123) (by decide +kernel) (by decide +kernel)
theorem zw_983 : Cond.methodLink (z_mY 51).cls 39 (z_mY 91) ∈ z_TB := z_inT (i := 983) (by decide +kernel) (by decide +kernel)
theorem zw_747 : Cond.instanceMethod (z_mY 91) ∈ z_TB := z_inT (i := 747) (by decide +kernel) (by decide +kernel)
theorem zw_748 : Cond.selects (z_mY 91).cls (z_mY 91) (z_mY 91) ∈ z_TB := z_inT (i := 748) (by decide +kernel) (by decide +kernel)
theorem zcl_91 : z_cls[8]? = some ((z_mY 91).cls, TX8, 11) := rfl
theorem zc_92 : ∀ m, z_ce m 92 2 := fun _ => ⟨z_inT (i := 757) (by decide +kernel) (by decide +kernel), by decide +kernel, by decide +kernel⟩
theorem zy_92 : plainName (z_mY 92).cls = true := by decide +kernel
theorem zw_984 : Cond.methodLink (z_mY 51).cls 43 (z_mY 92) ∈ z_TB := z_inT (i := 984) (by decide +kernel) (by decide +kernel)
theorem zw_755 : Cond.instanceMethod (z_mY 92) ∈ z_TB := z_inT (i := 755) (by decide +kernel) (by decide +kernel)
theorem zw_756 : Cond.selects (z_mY 92).cls (z_mY 92) (z_mY 92) ∈ z_TB := z_inT (i := 756) (by decide +kernel) (by decide +kernel)
theorem zcl_92 : z_cls[8]? = some ((z_mY 92).cls, TX8, 11) := rfl
theorem zc_52 : ∀ m, z_ce m 52 2 := fun _ => ⟨z_inT (i := 988) (by decide +kernel) (by decide +kernel), by decide +kernel, by decide +kernel⟩
theorem zy_52 : plainName (z_mY 52).cls = true := by decide +kernel
theorem zw_985 : Cond.methodLink (z_mY 51).cls 46 (z_mY 52) ∈ z_TB := z_inT (i := 985) (by decide +kernel) (by decide +kernel)
theorem zw_987 : Cond.instanceMethod (z_mY 52) ∈ z_TB := z_inT (i := 987) (by decide +kernel) (by decide +kernel)
theorem zw_33 : Cond.selects (z_mY 52).cls (z_mY 52) (z_mY 52) ∈ z_TB := z_inT (i := 33) (by decide +kernel) (by decide +kernel)
theorem zcl_52 : z_cls[4]? = some ((z_mY 52).cls, TX4, 5) := rfl
theorem zw_283 : Cond.methodLink (z_mY 54).cls 3 objectInit ∈ z_TB := z_inT (i := 283) (by decide +kernel) (by decide +kernel)
theorem zw_286 : Cond.fieldLink (z_mY 54).cls 11 "SlabMap$History" "rows" "[I" ∈ z_TB := z_inT (i := 286) (by decide +kernel) (by decide +kernel)
theorem zw_284 : Cond.fieldLink (z_mY 55).cls 17 "SlabMap$History" "count" "I" ∈ z_TB := z_inT (i := 284) (by decide +kernel) (by decide +kernel)
theorem zw_227 : Cond.fieldLink (z_mY 56).cls 21 "SlabMap$Edges" "row" "[I" ∈ z_TB := z_inT (i := 227) (by decide +kernel) (by decide +kernel)
theorem zw_287 : Cond.fieldLink (z_mY 56).cls 24 "SlabMap$History" "next" "I" ∈ z_TB := z_inT (i := 287) (by decide +kernel) (by decide +kernel)
theorem zw_874 : Cond.methodLink (z_mY 56).cls 27 arraycopyName ∈ z_TB := z_inT (i := 874) (by decide +kernel) (by decide +kernel)
theorem zw_875 : Cond.methodLink (z_mY 56).cls 33 (z_mY 297) ∈ z_TB := z_inT (i := 875) (by decide +kernel) (by decide +kernel)
theorem zc_18 : ∀ m, z_ce m 18 2 := fun _ => ⟨z_inT (i := 774) (by decide +kernel) (by decide +kernel), by decide +kernel, by decide +kernel⟩
theorem zy_18 : plainName (z_mY 18).cls = true := by decide +kernel
theorem zw_771 : Cond.methodLink (z_mY 57).cls 39 (z_mY 18) ∈ z_TB := z_inT (i := 771) (by decide +kernel) (by decide +kernel)
theorem zw_772 : Cond.instanceMethod (z_mY 18) ∈ z_TB := z_inT (i := 772) (by decide +kernel) (by decide +kernel)
theorem zw_773 : Cond.selects (z_mY 18).cls (z_mY 18) (z_mY 18) ∈ z_TB := z_inT (i := 773) (by decide +kernel) (by decide +kernel)
theorem zcl_18 : z_cls[3]? = some ((z_mY 18).cls, TX3, 2) := rfl
theorem zc_57 : ∀ m, z_ce m 57 2 := fun _ => ⟨z_inT (i := 770) (by decide +kernel) (by decide +kernel), by decide +kernel, by decide +kernel⟩
theorem zy_57 : plainName (z_mY 57).cls = true := by decide +kernel
theorem zw_124 : Cond.initialized "SlabMap$History" ∈ z_TB := z_inT (i := 124) (by decide +kernel) (by decide +kernel)
theorem zw_939 : Cond.methodLink (z_mY 58).cls 43 (z_mY 57) ∈ z_TB := z_inT (i := 939) (by decide +kernel) (by decide +kernel)
theorem zw_768 : Cond.instanceMethod (z_mY 57) ∈ z_TB := z_inT (i := 768) (by decide +kernel) (by decide +kernel)
theorem zw_769 : Cond.selects (z_mY 57).cls (z_mY 57) (z_mY 57) ∈ z_TB := z_inT (i := 769) (by decide +kernel) (by decide +kernel)
theorem zcl_57 : z_cls[5]? = some ((z_mY 57).cls, TX5, 3) := rfl
theorem zw_300 : Cond.methodLink (z_mY 59).cls 3 objectInit ∈ z_TB := z_inT (i := 300) (by decide +kernel) (by decide +kernel)
theorem zw_301 : Cond.fieldLink (z_mY 59).cls 11 "SlabMap$Log" "rows" "[I" ∈ z_TB := z_inT (i := 301) (by decide +kernel) (by decide +kernel)
theorem zw_302 : Cond.fieldLink (z_mY 60).cls 15 "SlabMap$Log" "total" "I" ∈ z_TB := z_inT (i := 302) (by decide +kernel) (by decide +kernel)
theorem zw_1121 : Cond.methodLink (z_mY 61).cls 19 arraycopyName ∈ z_TB := z_inT (i := 1121) (by decide +kernel) (by decide +kernel)
theorem zw_944 : Cond.methodLink (z_mY 63).cls 25 (z_mY 296) ∈ z_TB := z_inT (i := 944) (by decide +kernel) (by decide +kernel)
theorem zw_957 : Cond.methodLink (z_mY 64).cls 31 (z_mY 297) ∈ z_TB := z_inT (i := 957) (by decide +kernel) (by decide +kernel)
theorem zc_64 : ∀ m, z_ce m 64 0 := fun _ => ⟨z_inT (i := 956) (by decide +kernel) (by decide +kernel), by decide +kernel, by decide +kernel⟩
theorem zy_64 : plainName (z_mY 64).cls = true := by decide +kernel
theorem zw_125 : Cond.initialized "SlabMap$Log" ∈ z_TB := z_inT (i := 125) (by decide +kernel) (by decide +kernel)
theorem zw_953 : Cond.methodLink (z_mY 65).cls 34 (z_mY 64) ∈ z_TB := z_inT (i := 953) (by decide +kernel) (by decide +kernel)
theorem zw_954 : Cond.instanceMethod (z_mY 64) ∈ z_TB := z_inT (i := 954) (by decide +kernel) (by decide +kernel)
theorem zw_955 : Cond.selects (z_mY 64).cls (z_mY 64) (z_mY 64) ∈ z_TB := z_inT (i := 955) (by decide +kernel) (by decide +kernel)
theorem zcl_64 : z_cls[6]? = some ((z_mY 64).cls, TX6, 2) := rfl
theorem zw_958 : Cond.constant (z_mY 65).cls 38 (-1000000) ∈ z_TB := z_inT (i := 958) (by decide +kernel) (by decide +kernel)
theorem zw_169 : Cond.methodLink (z_mY 66).cls 3 objectInit ∈ z_TB := z_inT (i := 169) (by decide +kernel) (by decide +kernel)
theorem zw_189 : Cond.fieldLink (z_mY 66).cls 13 "SlabMap$Reader" "edges" "[I" ∈ z_TB := z_inT (i := 189) (by decide +kernel) (by decide +kernel)
theorem zw_193 : Cond.fieldLink (z_mY 66).cls 18 "SlabMap$Reader" "names" "[I" ∈ z_TB := z_inT (i := 193) (by decide +kernel) (by decide +kernel)
theorem zw_172 : Cond.classLink (z_mY 66).cls 21 "SlabMap$Steps" ∈ z_TB := z_inT (i := 172) (by decide +kernel) (by decide +kernel)
theorem zw_173 : Cond.instantiable "SlabMap$Steps" 2 ∈ z_TB := z_inT (i := 173) (by decide +kernel) (by decide +kernel)
theorem zw_120 : Cond.initialized "SlabMap$Steps" ∈ z_TB := z_inT (i := 120) (by decide +kernel) (by decide +kernel)
theorem zc_113 : ∀ m, z_ce m 113 0 := fun _ => ⟨z_inT (i := 176) (by decide +kernel) (by decide +kernel), by decide +kernel, by decide +kernel⟩
theorem zy_113 : plainName (z_mY 113).cls = true := by decide +kernel
theorem zw_175 : Cond.instanceMethod (z_mY 113) ∈ z_TB := z_inT (i := 175) (by decide +kernel) (by decide +kernel)
theorem zcl_113 : z_cls[9]? = some ((z_mY 113).cls, TX9, 2) := rfl
theorem zw_195 : Cond.fieldLink (z_mY 66).cls 24 "SlabMap$Reader" "steps" "LSlabMap$Steps;" ∈ z_TB := z_inT (i := 195) (by decide +kernel) (by decide +kernel)
theorem zw_197 : Cond.fieldLink (z_mY 66).cls 28 "SlabMap$Reader" "tape" "LSlabMap$Tape;" ∈ z_TB := z_inT (i := 197) (by decide +kernel) (by decide +kernel)
theorem zc_69 : ∀ m, z_ce m 69 0 := fun _ => ⟨z_inT (i := 464) (by decide +kernel) (by decide +kernel), by decide +kernel, by decide +kernel⟩
theorem zy_69 : plainName (z_mY 69).cls = true := by decide +kernel
theorem zw_119 : Cond.initialized "SlabMap$Reader" ∈ z_TB := z_inT (i := 119) (by decide +kernel) (by decide +kernel)
theorem zw_461 : Cond.methodLink (z_mY 67).cls 32 (z_mY 69) ∈ z_TB := z_inT (i := 461) (by decide +kernel) (by decide +kernel)
theorem zw_463 : Cond.instanceMethod (z_mY 69) ∈ z_TB := z_inT (i := 463) (by decide +kernel) (by decide +kernel)
theorem zw_0 : Cond.selects (z_mY 69).cls (z_mY 69) (z_mY 69) ∈ z_TB := z_inT (i := 0) (by decide +kernel) (by decide +kernel)
theorem zcl_69 : z_cls[7]? = some ((z_mY 69).cls, TX7, 7) := rfl
theorem zw_191 : Cond.fieldLink (z_mY 67).cls 35 "SlabMap$Reader" "edgeCount" "I" ∈ z_TB := z_inT (i := 191) (by decide +kernel) (by decide +kernel)
theorem zw_465 : Cond.methodLink (z_mY 67).cls 39 (z_mY 298) ∈ z_TB := z_inT (i := 465) (by decide +kernel) (by decide +kernel)
theorem zw_155 : Cond.fieldLink (z_mY 67).cls 45 "SlabMap$Tape" "length" "I" ∈ z_TB := z_inT (i := 155) (by decide +kernel) (by decide +kernel)
theorem zc_76 : ∀ m, z_ce m 76 0 := fun _ => ⟨z_inT (i := 469) (by decide +kernel) (by decide +kernel), by decide +kernel, by decide +kernel⟩
theorem zy_76 : plainName (z_mY 76).cls = true := by decide +kernel
theorem zw_466 : Cond.methodLink (z_mY 67).cls 50 (z_mY 76) ∈ z_TB := z_inT (i := 466) (by decide +kernel) (by decide +kernel)
theorem zw_468 : Cond.instanceMethod (z_mY 76) ∈ z_TB := z_inT (i := 468) (by decide +kernel) (by decide +kernel)
theorem zw_1 : Cond.selects (z_mY 76).cls (z_mY 76) (z_mY 76) ∈ z_TB := z_inT (i := 1) (by decide +kernel) (by decide +kernel)
theorem zcl_76 : z_cls[7]? = some ((z_mY 76).cls, TX7, 7) := rfl
theorem zc_75 : ∀ m, z_ce m 75 0 := fun _ => ⟨z_inT (i := 514) (by decide +kernel) (by decide +kernel), by decide +kernel, by decide +kernel⟩
theorem zy_75 : plainName (z_mY 75).cls = true := by decide +kernel
theorem zw_511 : Cond.methodLink (z_mY 67).cls 53 (z_mY 75) ∈ z_TB := z_inT (i := 511) (by decide +kernel) (by decide +kernel)
theorem zw_513 : Cond.instanceMethod (z_mY 75) ∈ z_TB := z_inT (i := 513) (by decide +kernel) (by decide +kernel)
theorem zw_10 : Cond.selects (z_mY 75).cls (z_mY 75) (z_mY 75) ∈ z_TB := z_inT (i := 10) (by decide +kernel) (by decide +kernel)
theorem zcl_75 : z_cls[7]? = some ((z_mY 75).cls, TX7, 7) := rfl
theorem zw_199 : Cond.fieldLink (z_mY 67).cls 57 "SlabMap$Reader" "fault" "I" ∈ z_TB := z_inT (i := 199) (by decide +kernel) (by decide +kernel)
theorem zw_182 : Cond.fieldLink (z_mY 68).cls 60 "SlabMap$Steps" "count" "I" ∈ z_TB := z_inT (i := 182) (by decide +kernel) (by decide +kernel)
theorem zc_78 : ∀ m, z_ce m 78 1 := fun _ => ⟨z_inT (i := 522) (by decide +kernel) (by decide +kernel), by decide +kernel, by decide +kernel⟩
theorem zy_78 : plainName (z_mY 78).cls = true := by decide +kernel
theorem zw_519 : Cond.methodLink (z_mY 68).cls 63 (z_mY 78) ∈ z_TB := z_inT (i := 519) (by decide +kernel) (by decide +kernel)
theorem zw_521 : Cond.instanceMethod (z_mY 78) ∈ z_TB := z_inT (i := 521) (by decide +kernel) (by decide +kernel)
theorem zw_11 : Cond.selects (z_mY 78).cls (z_mY 78) (z_mY 78) ∈ z_TB := z_inT (i := 11) (by decide +kernel) (by decide +kernel)
theorem zcl_78 : z_cls[7]? = some ((z_mY 78).cls, TX7, 7) := rfl
theorem zw_198 : Cond.fieldLink (z_mY 68).cls 67 "SlabMap$Reader" "next" "I" ∈ z_TB := z_inT (i := 198) (by decide +kernel) (by decide +kernel)
theorem zw_154 : Cond.fieldLink (z_mY 71).cls 70 "SlabMap$Tape" "bytes" "[I" ∈ z_TB := z_inT (i := 154) (by decide +kernel) (by decide +kernel)
theorem zc_74 : ∀ m, z_ce m 74 0 := fun _ => ⟨z_inT (i := 473) (by decide +kernel) (by decide +kernel), by decide +kernel, by decide +kernel⟩
theorem zy_74 : plainName (z_mY 74).cls = true := by decide +kernel
theorem zw_470 : Cond.methodLink (z_mY 75).cls 73 (z_mY 74) ∈ z_TB := z_inT (i := 470) (by decide +kernel) (by decide +kernel)
theorem zw_472 : Cond.instanceMethod (z_mY 74) ∈ z_TB := z_inT (i := 472) (by decide +kernel) (by decide +kernel)
theorem zw_2 : Cond.selects (z_mY 74).cls (z_mY 74) (z_mY 74) ∈ z_TB := z_inT (i := 2) (by decide +kernel) (by decide +kernel)
theorem zcl_74 : z_cls[7]? = some ((z_mY 74).cls, TX7, 7) := rfl
theorem zc_71 : ∀ m, z_ce m 71 0 := fun _ => ⟨z_inT (i := 477) (by decide +kernel) (by decide +kernel), by decide +kernel, by decide +kernel⟩
theorem zy_71 : plainName (z_mY 71).cls = true := by decide +kernel
theorem zw_474 : Cond.methodLink (z_mY 75).cls 76 (z_mY 71) ∈ z_TB := z_inT (i := 474) (by decide +kernel) (by decide +kernel)
theorem zw_476 : Cond.instanceMethod (z_mY 71) ∈ z_TB := z_inT (i := 476) (by decide +kernel) (by decide +kernel)
theorem zw_3 : Cond.selects (z_mY 71).cls (z_mY 71) (z_mY 71) ∈ z_TB := z_inT (i := 3) (by decide +kernel) (by decide +kernel)
theorem zcl_71 : z_cls[7]? = some ((z_mY 71).cls, TX7, 7) := rfl
theorem zc_70 : ∀ m, z_ce m 70 0 := fun _ => ⟨z_inT (i := 489) (by decide +kernel) (by decide +kernel), by decide +kernel, by decide +kernel⟩
theorem zy_70 : plainName (z_mY 70).cls = true := by decide +kernel
theorem zw_486 : Cond.methodLink (z_mY 75).cls 80 (z_mY 70) ∈ z_TB := z_inT (i := 486) (by decide +kernel) (by decide +kernel)
theorem zw_488 : Cond.instanceMethod (z_mY 70) ∈ z_TB := z_inT (i := 488) (by decide +kernel) (by decide +kernel)
theorem zw_6 : Cond.selects (z_mY 70).cls (z_mY 70) (z_mY 70) ∈ z_TB := z_inT (i := 6) (by decide +kernel) (by decide +kernel)
theorem zcl_70 : z_cls[7]? = some ((z_mY 70).cls, TX7, 7) := rfl
theorem zc_80 : ∀ m, z_ce m 80 3 := fun _ => ⟨z_inT (i := 481) (by decide +kernel) (by decide +kernel), by decide +kernel, by decide +kernel⟩
theorem zy_80 : plainName (z_mY 80).cls = true := by decide +kernel
theorem zw_478 : Cond.methodLink (z_mY 76).cls 83 (z_mY 80) ∈ z_TB := z_inT (i := 478) (by decide +kernel) (by decide +kernel)
theorem zw_480 : Cond.instanceMethod (z_mY 80) ∈ z_TB := z_inT (i := 480) (by decide +kernel) (by decide +kernel)
theorem zw_4 : Cond.selects (z_mY 80).cls (z_mY 80) (z_mY 80) ∈ z_TB := z_inT (i := 4) (by decide +kernel) (by decide +kernel)
theorem zcl_80 : z_cls[7]? = some ((z_mY 80).cls, TX7, 7) := rfl
theorem zc_77 : ∀ m, z_ce m 77 0 := fun _ => ⟨z_inT (i := 507) (by decide +kernel) (by decide +kernel), by decide +kernel, by decide +kernel⟩
theorem zy_77 : plainName (z_mY 77).cls = true := by decide +kernel
theorem zw_504 : Cond.methodLink (z_mY 76).cls 87 (z_mY 77) ∈ z_TB := z_inT (i := 504) (by decide +kernel) (by decide +kernel)
theorem zw_506 : Cond.instanceMethod (z_mY 77) ∈ z_TB := z_inT (i := 506) (by decide +kernel) (by decide +kernel)
theorem zw_9 : Cond.selects (z_mY 77).cls (z_mY 77) (z_mY 77) ∈ z_TB := z_inT (i := 9) (by decide +kernel) (by decide +kernel)
theorem zcl_77 : z_cls[7]? = some ((z_mY 77).cls, TX7, 7) := rfl
theorem zc_72 : ∀ m, z_ce m 72 1 := fun _ => ⟨z_inT (i := 500) (by decide +kernel) (by decide +kernel), by decide +kernel, by decide +kernel⟩
theorem zy_72 : plainName (z_mY 72).cls = true := by decide +kernel
theorem zw_498 : Cond.methodLink (z_mY 77).cls 90 (z_mY 72) ∈ z_TB := z_inT (i := 498) (by decide +kernel) (by decide +kernel)
theorem zw_499 : Cond.static (z_mY 72) ∈ z_TB := z_inT (i := 499) (by decide +kernel) (by decide +kernel)
theorem zc_73 : ∀ m, z_ce m 73 1 := fun _ => ⟨z_inT (i := 510) (by decide +kernel) (by decide +kernel), by decide +kernel, by decide +kernel⟩
theorem zy_73 : plainName (z_mY 73).cls = true := by decide +kernel
theorem zw_508 : Cond.methodLink (z_mY 77).cls 94 (z_mY 73) ∈ z_TB := z_inT (i := 508) (by decide +kernel) (by decide +kernel)
theorem zw_509 : Cond.static (z_mY 73) ∈ z_TB := z_inT (i := 509) (by decide +kernel) (by decide +kernel)
theorem zc_79 : ∀ m, z_ce m 79 1 := fun _ => ⟨z_inT (i := 525) (by decide +kernel) (by decide +kernel), by decide +kernel, by decide +kernel⟩
theorem zy_79 : plainName (z_mY 79).cls = true := by decide +kernel
theorem zw_523 : Cond.methodLink (z_mY 78).cls 98 (z_mY 79) ∈ z_TB := z_inT (i := 523) (by decide +kernel) (by decide +kernel)
theorem zw_524 : Cond.static (z_mY 79) ∈ z_TB := z_inT (i := 524) (by decide +kernel) (by decide +kernel)
theorem zw_180 : Cond.fieldLink (z_mY 78).cls 101 "SlabMap$Steps" "numbers" "[I" ∈ z_TB := z_inT (i := 180) (by decide +kernel) (by decide +kernel)
theorem zw_526 : Cond.constant (z_mY 78).cls 104 (-1000000) ∈ z_TB := z_inT (i := 526) (by decide +kernel) (by decide +kernel)
theorem zc_82 : ∀ m, z_ce m 82 0 := fun _ => ⟨z_inT (i := 485) (by decide +kernel) (by decide +kernel), by decide +kernel, by decide +kernel⟩
theorem zy_82 : plainName (z_mY 82).cls = true := by decide +kernel
theorem zw_482 : Cond.methodLink (z_mY 80).cls 105 (z_mY 82) ∈ z_TB := z_inT (i := 482) (by decide +kernel) (by decide +kernel)
theorem zw_484 : Cond.instanceMethod (z_mY 82) ∈ z_TB := z_inT (i := 484) (by decide +kernel) (by decide +kernel)
theorem zw_5 : Cond.selects (z_mY 82).cls (z_mY 82) (z_mY 82) ∈ z_TB := z_inT (i := 5) (by decide +kernel) (by decide +kernel)
theorem zcl_82 : z_cls[7]? = some ((z_mY 82).cls, TX7, 7) := rfl
theorem zc_83 : ∀ m, z_ce m 83 0 := fun _ => ⟨z_inT (i := 493) (by decide +kernel) (by decide +kernel), by decide +kernel, by decide +kernel⟩
theorem zy_83 : plainName (z_mY 83).cls = true := by decide +kernel
theorem zw_490 : Cond.methodLink (z_mY 80).cls 108 (z_mY 83) ∈ z_TB := z_inT (i := 490) (by decide +kernel) (by decide +kernel)
theorem zw_492 : Cond.instanceMethod (z_mY 83) ∈ z_TB := z_inT (i := 492) (by decide +kernel) (by decide +kernel)
theorem zw_7 : Cond.selects (z_mY 83).cls (z_mY 83) (z_mY 83) ∈ z_TB := z_inT (i := 7) (by decide +kernel) (by decide +kernel)
theorem zcl_83 : z_cls[7]? = some ((z_mY 83).cls, TX7, 7) := rfl
theorem zc_81 : ∀ m, z_ce m 81 2 := fun _ => ⟨z_inT (i := 503) (by decide +kernel) (by decide +kernel), by decide +kernel, by decide +kernel⟩
theorem zy_81 : plainName (z_mY 81).cls = true := by decide +kernel
theorem zw_501 : Cond.methodLink (z_mY 80).cls 111 (z_mY 81) ∈ z_TB := z_inT (i := 501) (by decide +kernel) (by decide +kernel)
theorem zw_502 : Cond.static (z_mY 81) ∈ z_TB := z_inT (i := 502) (by decide +kernel) (by decide +kernel)
theorem zc_84 : ∀ m, z_ce m 84 1 := fun _ => ⟨z_inT (i := 497) (by decide +kernel) (by decide +kernel), by decide +kernel, by decide +kernel⟩
theorem zy_84 : plainName (z_mY 84).cls = true := by decide +kernel
theorem zw_494 : Cond.methodLink (z_mY 80).cls 115 (z_mY 84) ∈ z_TB := z_inT (i := 494) (by decide +kernel) (by decide +kernel)
theorem zw_496 : Cond.instanceMethod (z_mY 84) ∈ z_TB := z_inT (i := 496) (by decide +kernel) (by decide +kernel)
theorem zw_8 : Cond.selects (z_mY 84).cls (z_mY 84) (z_mY 84) ∈ z_TB := z_inT (i := 8) (by decide +kernel) (by decide +kernel)
theorem zcl_84 : z_cls[7]? = some ((z_mY 84).cls, TX7, 7) := rfl
theorem zw_240 : Cond.methodLink (z_mY 85).cls 3 objectInit ∈ z_TB := z_inT (i := 240) (by decide +kernel) (by decide +kernel)
theorem zw_241 : Cond.fieldLink (z_mY 85).cls 9 "SlabMap$Slabs" "stale" "Z" ∈ z_TB := z_inT (i := 241) (by decide +kernel) (by decide +kernel)
theorem zw_247 : Cond.fieldLink (z_mY 85).cls 15 "SlabMap$Slabs" "cuts" "[I" ∈ z_TB := z_inT (i := 247) (by decide +kernel) (by decide +kernel)
theorem zw_248 : Cond.fieldLink (z_mY 85).cls 19 "SlabMap$Slabs" "lengths" "[I" ∈ z_TB := z_inT (i := 248) (by decide +kernel) (by decide +kernel)
theorem zw_249 : Cond.fieldLink (z_mY 85).cls 22 "SlabMap$Slabs" "lists" "[I" ∈ z_TB := z_inT (i := 249) (by decide +kernel) (by decide +kernel)
theorem zw_250 : Cond.fieldLink (z_mY 85).cls 25 "SlabMap$Slabs" "partFrom" "[I" ∈ z_TB := z_inT (i := 250) (by decide +kernel) (by decide +kernel)
theorem zw_251 : Cond.fieldLink (z_mY 85).cls 28 "SlabMap$Slabs" "partRegion" "[I" ∈ z_TB := z_inT (i := 251) (by decide +kernel) (by decide +kernel)
theorem zw_253 : Cond.fieldLink (z_mY 85).cls 31 "SlabMap$Slabs" "pointCounts" "[I" ∈ z_TB := z_inT (i := 253) (by decide +kernel) (by decide +kernel)
theorem zw_254 : Cond.fieldLink (z_mY 85).cls 34 "SlabMap$Slabs" "neighbourBits" "[I" ∈ z_TB := z_inT (i := 254) (by decide +kernel) (by decide +kernel)
theorem zw_246 : Cond.fieldLink (z_mY 85).cls 37 "SlabMap$Slabs" "edges" "LSlabMap$Edges;" ∈ z_TB := z_inT (i := 246) (by decide +kernel) (by decide +kernel)
theorem zw_711 : Cond.methodLink (z_mY 86).cls 41 (z_mY 44) ∈ z_TB := z_inT (i := 711) (by decide +kernel) (by decide +kernel)
theorem zw_712 : Cond.methodLink (z_mY 86).cls 47 (z_mY 296) ∈ z_TB := z_inT (i := 712) (by decide +kernel) (by decide +kernel)
theorem zw_243 : Cond.fieldLink (z_mY 86).cls 53 "SlabMap$Slabs" "count" "I" ∈ z_TB := z_inT (i := 243) (by decide +kernel) (by decide +kernel)
theorem zc_87 : ∀ m, z_ce m 87 1 := fun _ => ⟨z_inT (i := 716) (by decide +kernel) (by decide +kernel), by decide +kernel, by decide +kernel⟩
theorem zy_87 : plainName (z_mY 87).cls = true := by decide +kernel
theorem zw_713 : Cond.methodLink (z_mY 86).cls 57 (z_mY 87) ∈ z_TB := z_inT (i := 713) (by decide +kernel) (by decide +kernel)
theorem zw_715 : Cond.instanceMethod (z_mY 87) ∈ z_TB := z_inT (i := 715) (by decide +kernel) (by decide +kernel)
theorem zw_22 : Cond.selects (z_mY 87).cls (z_mY 87) (z_mY 87) ∈ z_TB := z_inT (i := 22) (by decide +kernel) (by decide +kernel)
theorem zcl_87 : z_cls[8]? = some ((z_mY 87).cls, TX8, 11) := rfl
theorem zw_717 : Cond.methodLink (z_mY 87).cls 61 (z_mY 19) ∈ z_TB := z_inT (i := 717) (by decide +kernel) (by decide +kernel)
theorem zw_718 : Cond.methodLink (z_mY 87).cls 65 (z_mY 20) ∈ z_TB := z_inT (i := 718) (by decide +kernel) (by decide +kernel)
theorem zc_89 : ∀ m, z_ce m 89 1 := fun _ => ⟨z_inT (i := 722) (by decide +kernel) (by decide +kernel), by decide +kernel, by decide +kernel⟩
theorem zy_89 : plainName (z_mY 89).cls = true := by decide +kernel
theorem zw_719 : Cond.methodLink (z_mY 87).cls 69 (z_mY 89) ∈ z_TB := z_inT (i := 719) (by decide +kernel) (by decide +kernel)
theorem zw_720 : Cond.instanceMethod (z_mY 89) ∈ z_TB := z_inT (i := 720) (by decide +kernel) (by decide +kernel)
theorem zw_721 : Cond.selects (z_mY 89).cls (z_mY 89) (z_mY 89) ∈ z_TB := z_inT (i := 721) (by decide +kernel) (by decide +kernel)
theorem zcl_89 : z_cls[8]? = some ((z_mY 89).cls, TX8, 11) := rfl
theorem zw_723 : Cond.methodLink (z_mY 87).cls 72 (z_mY 22) ∈ z_TB := z_inT (i := 723) (by decide +kernel) (by decide +kernel)
theorem zc_90 : ∀ m, z_ce m 90 1 := fun _ => ⟨z_inT (i := 727) (by decide +kernel) (by decide +kernel), by decide +kernel, by decide +kernel⟩
theorem zy_90 : plainName (z_mY 90).cls = true := by decide +kernel
theorem zw_724 : Cond.methodLink (z_mY 87).cls 75 (z_mY 90) ∈ z_TB := z_inT (i := 724) (by decide +kernel) (by decide +kernel)
theorem zw_725 : Cond.instanceMethod (z_mY 90) ∈ z_TB := z_inT (i := 725) (by decide +kernel) (by decide +kernel)
theorem zw_726 : Cond.selects (z_mY 90).cls (z_mY 90) (z_mY 90) ∈ z_TB := z_inT (i := 726) (by decide +kernel) (by decide +kernel)
theorem zcl_90 : z_cls[8]? = some ((z_mY 90).cls, TX8, 11) := rfl
theorem zc_88 : ∀ m, z_ce m 88 2 := fun _ => ⟨z_inT (i := 731) (by decide +kernel) (by decide +kernel), by decide +kernel, by decide +kernel⟩
theorem zy_88 : plainName (z_mY 88).cls = true := by decide +kernel
theorem zw_728 : Cond.methodLink (z_mY 87).cls 78 (z_mY 88) ∈ z_TB := z_inT (i := 728) (by decide +kernel) (by decide +kernel)
theorem zw_730 : Cond.instanceMethod (z_mY 88) ∈ z_TB := z_inT (i := 730) (by decide +kernel) (by decide +kernel)
theorem zw_23 : Cond.selects (z_mY 88).cls (z_mY 88) (z_mY 88) ∈ z_TB := z_inT (i := 23) (by decide +kernel) (by decide +kernel)
theorem zcl_88 : z_cls[8]? = some ((z_mY 88).cls, TX8, 11) := rfl
theorem zc_28 : ∀ m, z_ce m 28 3 := fun _ => ⟨z_inT (i := 735) (by decide +kernel) (by decide +kernel), by decide +kernel, by decide +kernel⟩
theorem zy_28 : plainName (z_mY 28).cls = true := by decide +kernel
theorem zw_732 : Cond.methodLink (z_mY 88).cls 82 (z_mY 28) ∈ z_TB := z_inT (i := 732) (by decide +kernel) (by decide +kernel)
theorem zw_733 : Cond.instanceMethod (z_mY 28) ∈ z_TB := z_inT (i := 733) (by decide +kernel) (by decide +kernel)
theorem zw_734 : Cond.selects (z_mY 28).cls (z_mY 28) (z_mY 28) ∈ z_TB := z_inT (i := 734) (by decide +kernel) (by decide +kernel)
theorem zcl_28 : z_cls[3]? = some ((z_mY 28).cls, TX3, 2) := rfl
theorem zw_758 : Cond.methodLink (z_mY 92).cls 86 (z_mY 91) ∈ z_TB := z_inT (i := 758) (by decide +kernel) (by decide +kernel)
theorem zw_785 : Cond.methodLink (z_mY 95).cls 89 (z_mY 92) ∈ z_TB := z_inT (i := 785) (by decide +kernel) (by decide +kernel)
theorem zc_27 : ∀ m, z_ce m 27 3 := fun _ => ⟨z_inT (i := 789) (by decide +kernel) (by decide +kernel), by decide +kernel, by decide +kernel⟩
theorem zy_27 : plainName (z_mY 27).cls = true := by decide +kernel
theorem zw_786 : Cond.methodLink (z_mY 95).cls 92 (z_mY 27) ∈ z_TB := z_inT (i := 786) (by decide +kernel) (by decide +kernel)
theorem zw_787 : Cond.instanceMethod (z_mY 27) ∈ z_TB := z_inT (i := 787) (by decide +kernel) (by decide +kernel)
theorem zw_788 : Cond.selects (z_mY 27).cls (z_mY 27) (z_mY 27) ∈ z_TB := z_inT (i := 788) (by decide +kernel) (by decide +kernel)
theorem zcl_27 : z_cls[3]? = some ((z_mY 27).cls, TX3, 2) := rfl
theorem zw_794 : Cond.methodLink (z_mY 96).cls 95 (z_mY 24) ∈ z_TB := z_inT (i := 794) (by decide +kernel) (by decide +kernel)
theorem zw_814 : Cond.methodLink (z_mY 100).cls 98 (z_mY 298) ∈ z_TB := z_inT (i := 814) (by decide +kernel) (by decide +kernel)
theorem zc_96 : ∀ m, z_ce m 96 2 := fun _ => ⟨z_inT (i := 793) (by decide +kernel) (by decide +kernel), by decide +kernel, by decide +kernel⟩
theorem zy_96 : plainName (z_mY 96).cls = true := by decide +kernel
theorem zw_836 : Cond.methodLink (z_mY 100).cls 104 (z_mY 96) ∈ z_TB := z_inT (i := 836) (by decide +kernel) (by decide +kernel)
theorem zw_791 : Cond.instanceMethod (z_mY 96) ∈ z_TB := z_inT (i := 791) (by decide +kernel) (by decide +kernel)
theorem zw_792 : Cond.selects (z_mY 96).cls (z_mY 96) (z_mY 96) ∈ z_TB := z_inT (i := 792) (by decide +kernel) (by decide +kernel)
theorem zcl_96 : z_cls[8]? = some ((z_mY 96).cls, TX8, 11) := rfl
theorem zc_100 : ∀ m, z_ce m 100 0 := fun _ => ⟨z_inT (i := 835) (by decide +kernel) (by decide +kernel), by decide +kernel, by decide +kernel⟩
theorem zy_100 : plainName (z_mY 100).cls = true := by decide +kernel
theorem zw_1099 : Cond.methodLink (z_mY 101).cls 107 (z_mY 100) ∈ z_TB := z_inT (i := 1099) (by decide +kernel) (by decide +kernel)
theorem zw_833 : Cond.instanceMethod (z_mY 100) ∈ z_TB := z_inT (i := 833) (by decide +kernel) (by decide +kernel)
theorem zw_834 : Cond.selects (z_mY 100).cls (z_mY 100) (z_mY 100) ∈ z_TB := z_inT (i := 834) (by decide +kernel) (by decide +kernel)
theorem zcl_100 : z_cls[8]? = some ((z_mY 100).cls, TX8, 11) := rfl
theorem zc_294 : ∀ m, z_ce m 294 1 := fun _ => ⟨z_inT (i := 691) (by decide +kernel) (by decide +kernel), by decide +kernel, by decide +kernel⟩
theorem zy_294 : plainName (z_mY 294).cls = true := by decide +kernel
theorem zw_133 : Cond.initialized "java/lang/Integer" ∈ z_TB := z_inT (i := 133) (by decide +kernel) (by decide +kernel)
theorem zw_1100 : Cond.methodLink (z_mY 101).cls 111 (z_mY 294) ∈ z_TB := z_inT (i := 1100) (by decide +kernel) (by decide +kernel)
theorem zw_690 : Cond.static (z_mY 294) ∈ z_TB := z_inT (i := 690) (by decide +kernel) (by decide +kernel)
theorem zc_94 : ∀ m, z_ce m 94 1 := fun _ => ⟨z_inT (i := 780) (by decide +kernel) (by decide +kernel), by decide +kernel, by decide +kernel⟩
theorem zy_94 : plainName (z_mY 94).cls = true := by decide +kernel
theorem zw_819 : Cond.methodLink (z_mY 103).cls 116 (z_mY 94) ∈ z_TB := z_inT (i := 819) (by decide +kernel) (by decide +kernel)
theorem zw_778 : Cond.instanceMethod (z_mY 94) ∈ z_TB := z_inT (i := 778) (by decide +kernel) (by decide +kernel)
theorem zw_779 : Cond.selects (z_mY 94).cls (z_mY 94) (z_mY 94) ∈ z_TB := z_inT (i := 779) (by decide +kernel) (by decide +kernel)
theorem zcl_94 : z_cls[8]? = some ((z_mY 94).cls, TX8, 11) := rfl
theorem zw_252 : Cond.fieldLink (z_mY 103).cls 119 "SlabMap$Slabs" "parts" "I" ∈ z_TB := z_inT (i := 252) (by decide +kernel) (by decide +kernel)
theorem zc_29 : ∀ m, z_ce m 29 2 := fun _ => ⟨z_inT (i := 823) (by decide +kernel) (by decide +kernel), by decide +kernel, by decide +kernel⟩
theorem zy_29 : plainName (z_mY 29).cls = true := by decide +kernel
theorem zw_820 : Cond.methodLink (z_mY 103).cls 122 (z_mY 29) ∈ z_TB := z_inT (i := 820) (by decide +kernel) (by decide +kernel)
theorem zw_821 : Cond.instanceMethod (z_mY 29) ∈ z_TB := z_inT (i := 821) (by decide +kernel) (by decide +kernel)
theorem zw_822 : Cond.selects (z_mY 29).cls (z_mY 29) (z_mY 29) ∈ z_TB := z_inT (i := 822) (by decide +kernel) (by decide +kernel)
theorem zcl_29 : z_cls[3]? = some ((z_mY 29).cls, TX3, 2) := rfl
theorem zc_103 : ∀ m, z_ce m 103 1 := fun _ => ⟨z_inT (i := 818) (by decide +kernel) (by decide +kernel), by decide +kernel, by decide +kernel⟩
theorem zy_103 : plainName (z_mY 103).cls = true := by decide +kernel
theorem zw_815 : Cond.methodLink (z_mY 105).cls 125 (z_mY 103) ∈ z_TB := z_inT (i := 815) (by decide +kernel) (by decide +kernel)
theorem zw_817 : Cond.instanceMethod (z_mY 103) ∈ z_TB := z_inT (i := 817) (by decide +kernel) (by decide +kernel)
theorem zw_25 : Cond.selects (z_mY 103).cls (z_mY 103) (z_mY 103) ∈ z_TB := z_inT (i := 25) (by decide +kernel) (by decide +kernel)
theorem zcl_103 : z_cls[8]? = some ((z_mY 103).cls, TX8, 11) := rfl
theorem zc_104 : ∀ m, z_ce m 104 1 := fun _ => ⟨z_inT (i := 827) (by decide +kernel) (by decide +kernel), by decide +kernel, by decide +kernel⟩
theorem zy_104 : plainName (z_mY 104).cls = true := by decide +kernel
theorem zw_824 : Cond.methodLink (z_mY 105).cls 128 (z_mY 104) ∈ z_TB := z_inT (i := 824) (by decide +kernel) (by decide +kernel)
theorem zw_826 : Cond.instanceMethod (z_mY 104) ∈ z_TB := z_inT (i := 826) (by decide +kernel) (by decide +kernel)
theorem zw_26 : Cond.selects (z_mY 104).cls (z_mY 104) (z_mY 104) ∈ z_TB := z_inT (i := 26) (by decide +kernel) (by decide +kernel)
theorem zcl_104 : z_cls[8]? = some ((z_mY 104).cls, TX8, 11) := rfl
theorem zc_105 : ∀ m, z_ce m 105 0 := fun _ => ⟨z_inT (i := 813) (by decide +kernel) (by decide +kernel), by decide +kernel, by decide +kernel⟩
theorem zy_105 : plainName (z_mY 105).cls = true := by decide +kernel
theorem zw_1094 : Cond.methodLink (z_mY 106).cls 131 (z_mY 105) ∈ z_TB := z_inT (i := 1094) (by decide +kernel) (by decide +kernel)
theorem zw_811 : Cond.instanceMethod (z_mY 105) ∈ z_TB := z_inT (i := 811) (by decide +kernel) (by decide +kernel)
theorem zw_812 : Cond.selects (z_mY 105).cls (z_mY 105) (z_mY 105) ∈ z_TB := z_inT (i := 812) (by decide +kernel) (by decide +kernel)
theorem zcl_105 : z_cls[8]? = some ((z_mY 105).cls, TX8, 11) := rfl
theorem zc_109 : ∀ m, z_ce m 109 3 := fun _ => ⟨z_inT (i := 1000) (by decide +kernel) (by decide +kernel), by decide +kernel, by decide +kernel⟩
theorem zy_109 : plainName (z_mY 109).cls = true := by decide +kernel
theorem zw_997 : Cond.methodLink (z_mY 108).cls 134 (z_mY 109) ∈ z_TB := z_inT (i := 997) (by decide +kernel) (by decide +kernel)
theorem zw_999 : Cond.instanceMethod (z_mY 109) ∈ z_TB := z_inT (i := 999) (by decide +kernel) (by decide +kernel)
theorem zw_34 : Cond.selects (z_mY 109).cls (z_mY 109) (z_mY 109) ∈ z_TB := z_inT (i := 34) (by decide +kernel) (by decide +kernel)
theorem zcl_109 : z_cls[8]? = some ((z_mY 109).cls, TX8, 11) := rfl
theorem zw_1001 : Cond.methodLink (z_mY 109).cls 138 (z_mY 297) ∈ z_TB := z_inT (i := 1001) (by decide +kernel) (by decide +kernel)
theorem zc_111 : ∀ m, z_ce m 111 2 := fun _ => ⟨z_inT (i := 1009) (by decide +kernel) (by decide +kernel), by decide +kernel, by decide +kernel⟩
theorem zy_111 : plainName (z_mY 111).cls = true := by decide +kernel
theorem zw_1006 : Cond.methodLink (z_mY 110).cls 141 (z_mY 111) ∈ z_TB := z_inT (i := 1006) (by decide +kernel) (by decide +kernel)
theorem zw_1008 : Cond.instanceMethod (z_mY 111) ∈ z_TB := z_inT (i := 1008) (by decide +kernel) (by decide +kernel)
theorem zw_35 : Cond.selects (z_mY 111).cls (z_mY 111) (z_mY 111) ∈ z_TB := z_inT (i := 35) (by decide +kernel) (by decide +kernel)
theorem zcl_111 : z_cls[8]? = some ((z_mY 111).cls, TX8, 11) := rfl
theorem zc_112 : ∀ m, z_ce m 112 3 := fun _ => ⟨z_inT (i := 1013) (by decide +kernel) (by decide +kernel), by decide +kernel, by decide +kernel⟩
theorem zy_112 : plainName (z_mY 112).cls = true := by decide +kernel
theorem zw_1010 : Cond.methodLink (z_mY 111).cls 145 (z_mY 112) ∈ z_TB := z_inT (i := 1010) (by decide +kernel) (by decide +kernel)
theorem zw_1012 : Cond.instanceMethod (z_mY 112) ∈ z_TB := z_inT (i := 1012) (by decide +kernel) (by decide +kernel)
theorem zw_36 : Cond.selects (z_mY 112).cls (z_mY 112) (z_mY 112) ∈ z_TB := z_inT (i := 36) (by decide +kernel) (by decide +kernel)
theorem zcl_112 : z_cls[8]? = some ((z_mY 112).cls, TX8, 11) := rfl
theorem zw_177 : Cond.methodLink (z_mY 113).cls 3 objectInit ∈ z_TB := z_inT (i := 177) (by decide +kernel) (by decide +kernel)
theorem zw_178 : Cond.fieldLink (z_mY 113).cls 11 "SlabMap$Steps" "numbers" "[I" ∈ z_TB := z_inT (i := 178) (by decide +kernel) (by decide +kernel)
theorem zw_666 : Cond.methodLink (z_mY 114).cls 15 arraycopyName ∈ z_TB := z_inT (i := 666) (by decide +kernel) (by decide +kernel)
theorem zw_181 : Cond.fieldLink (z_mY 114).cls 21 "SlabMap$Steps" "count" "I" ∈ z_TB := z_inT (i := 181) (by decide +kernel) (by decide +kernel)
theorem zw_1064 : Cond.constant (z_mY 115).cls 25 (-1000000) ∈ z_TB := z_inT (i := 1064) (by decide +kernel) (by decide +kernel)
theorem zw_152 : Cond.methodLink (z_mY 116).cls 3 objectInit ∈ z_TB := z_inT (i := 152) (by decide +kernel) (by decide +kernel)
theorem zw_153 : Cond.fieldLink (z_mY 116).cls 9 "SlabMap$Tape" "bytes" "[I" ∈ z_TB := z_inT (i := 153) (by decide +kernel) (by decide +kernel)
theorem zw_157 : Cond.fieldLink (z_mY 118).cls 15 "SlabMap$Tape" "length" "I" ∈ z_TB := z_inT (i := 157) (by decide +kernel) (by decide +kernel)
theorem zw_144 : Cond.methodLink (z_mY 119).cls 3 objectInit ∈ z_TB := z_inT (i := 144) (by decide +kernel) (by decide +kernel)
theorem zw_147 : Cond.classLink (z_mY 119).cls 9 "SlabMap$Tape" ∈ z_TB := z_inT (i := 147) (by decide +kernel) (by decide +kernel)
theorem zw_148 : Cond.instantiable "SlabMap$Tape" 2 ∈ z_TB := z_inT (i := 148) (by decide +kernel) (by decide +kernel)
theorem zw_118 : Cond.initialized "SlabMap$Tape" ∈ z_TB := z_inT (i := 118) (by decide +kernel) (by decide +kernel)
theorem zc_116 : ∀ m, z_ce m 116 0 := fun _ => ⟨z_inT (i := 151) (by decide +kernel) (by decide +kernel), by decide +kernel, by decide +kernel⟩
theorem zy_116 : plainName (z_mY 116).cls = true := by decide +kernel
theorem zw_150 : Cond.instanceMethod (z_mY 116) ∈ z_TB := z_inT (i := 150) (by decide +kernel) (by decide +kernel)
theorem zcl_116 : z_cls[10]? = some ((z_mY 116).cls, TX10, 2) := rfl
theorem zw_380 : Cond.fieldLink (z_mY 119).cls 12 "SlabMap" "tape" "LSlabMap$Tape;" ∈ z_TB := z_inT (i := 380) (by decide +kernel) (by decide +kernel)
theorem zw_164 : Cond.classLink (z_mY 119).cls 16 "SlabMap$Reader" ∈ z_TB := z_inT (i := 164) (by decide +kernel) (by decide +kernel)
theorem zw_165 : Cond.instantiable "SlabMap$Reader" 7 ∈ z_TB := z_inT (i := 165) (by decide +kernel) (by decide +kernel)
theorem zc_66 : ∀ m, z_ce m 66 1 := fun _ => ⟨z_inT (i := 168) (by decide +kernel) (by decide +kernel), by decide +kernel, by decide +kernel⟩
theorem zy_66 : plainName (z_mY 66).cls = true := by decide +kernel
theorem zw_166 : Cond.methodLink (z_mY 119).cls 18 (z_mY 66) ∈ z_TB := z_inT (i := 166) (by decide +kernel) (by decide +kernel)
theorem zw_167 : Cond.instanceMethod (z_mY 66) ∈ z_TB := z_inT (i := 167) (by decide +kernel) (by decide +kernel)
theorem zcl_66 : z_cls[7]? = some ((z_mY 66).cls, TX7, 7) := rfl
theorem zw_381 : Cond.fieldLink (z_mY 119).cls 21 "SlabMap" "reader" "LSlabMap$Reader;" ∈ z_TB := z_inT (i := 381) (by decide +kernel) (by decide +kernel)
theorem zw_382 : Cond.fieldLink (z_mY 119).cls 25 "SlabMap" "names" "[I" ∈ z_TB := z_inT (i := 382) (by decide +kernel) (by decide +kernel)
theorem zw_215 : Cond.classLink (z_mY 119).cls 29 "SlabMap$Steps" ∈ z_TB := z_inT (i := 215) (by decide +kernel) (by decide +kernel)
theorem zw_383 : Cond.fieldLink (z_mY 119).cls 31 "SlabMap" "scripts" "[LSlabMap$Steps;" ∈ z_TB := z_inT (i := 383) (by decide +kernel) (by decide +kernel)
theorem zw_217 : Cond.classLink (z_mY 119).cls 35 "SlabMap$Edges" ∈ z_TB := z_inT (i := 217) (by decide +kernel) (by decide +kernel)
theorem zw_218 : Cond.instantiable "SlabMap$Edges" 2 ∈ z_TB := z_inT (i := 218) (by decide +kernel) (by decide +kernel)
theorem zc_15 : ∀ m, z_ce m 15 0 := fun _ => ⟨z_inT (i := 221) (by decide +kernel) (by decide +kernel), by decide +kernel, by decide +kernel⟩
theorem zy_15 : plainName (z_mY 15).cls = true := by decide +kernel
theorem zw_219 : Cond.methodLink (z_mY 119).cls 37 (z_mY 15) ∈ z_TB := z_inT (i := 219) (by decide +kernel) (by decide +kernel)
theorem zw_220 : Cond.instanceMethod (z_mY 15) ∈ z_TB := z_inT (i := 220) (by decide +kernel) (by decide +kernel)
theorem zcl_15 : z_cls[3]? = some ((z_mY 15).cls, TX3, 2) := rfl
theorem zw_386 : Cond.fieldLink (z_mY 119).cls 38 "SlabMap" "now" "LSlabMap$Edges;" ∈ z_TB := z_inT (i := 386) (by decide +kernel) (by decide +kernel)
theorem zw_235 : Cond.classLink (z_mY 119).cls 42 "SlabMap$Slabs" ∈ z_TB := z_inT (i := 235) (by decide +kernel) (by decide +kernel)
theorem zw_236 : Cond.instantiable "SlabMap$Slabs" 11 ∈ z_TB := z_inT (i := 236) (by decide +kernel) (by decide +kernel)
theorem zc_85 : ∀ m, z_ce m 85 1 := fun _ => ⟨z_inT (i := 239) (by decide +kernel) (by decide +kernel), by decide +kernel, by decide +kernel⟩
theorem zy_85 : plainName (z_mY 85).cls = true := by decide +kernel
theorem zw_237 : Cond.methodLink (z_mY 119).cls 44 (z_mY 85) ∈ z_TB := z_inT (i := 237) (by decide +kernel) (by decide +kernel)
theorem zw_238 : Cond.instanceMethod (z_mY 85) ∈ z_TB := z_inT (i := 238) (by decide +kernel) (by decide +kernel)
theorem zcl_85 : z_cls[8]? = some ((z_mY 85).cls, TX8, 11) := rfl
theorem zw_387 : Cond.fieldLink (z_mY 119).cls 47 "SlabMap" "nowSlabs" "LSlabMap$Slabs;" ∈ z_TB := z_inT (i := 387) (by decide +kernel) (by decide +kernel)
theorem zw_388 : Cond.fieldLink (z_mY 119).cls 51 "SlabMap" "other" "LSlabMap$Edges;" ∈ z_TB := z_inT (i := 388) (by decide +kernel) (by decide +kernel)
theorem zw_389 : Cond.fieldLink (z_mY 119).cls 54 "SlabMap" "otherSlabs" "LSlabMap$Slabs;" ∈ z_TB := z_inT (i := 389) (by decide +kernel) (by decide +kernel)
theorem zw_278 : Cond.classLink (z_mY 119).cls 57 "SlabMap$History" ∈ z_TB := z_inT (i := 278) (by decide +kernel) (by decide +kernel)
theorem zw_279 : Cond.instantiable "SlabMap$History" 3 ∈ z_TB := z_inT (i := 279) (by decide +kernel) (by decide +kernel)
theorem zc_54 : ∀ m, z_ce m 54 0 := fun _ => ⟨z_inT (i := 282) (by decide +kernel) (by decide +kernel), by decide +kernel, by decide +kernel⟩
theorem zy_54 : plainName (z_mY 54).cls = true := by decide +kernel
theorem zw_281 : Cond.instanceMethod (z_mY 54) ∈ z_TB := z_inT (i := 281) (by decide +kernel) (by decide +kernel)
theorem zcl_54 : z_cls[5]? = some ((z_mY 54).cls, TX5, 3) := rfl
theorem zw_390 : Cond.fieldLink (z_mY 119).cls 60 "SlabMap" "history" "LSlabMap$History;" ∈ z_TB := z_inT (i := 390) (by decide +kernel) (by decide +kernel)
theorem zw_295 : Cond.classLink (z_mY 119).cls 64 "SlabMap$Log" ∈ z_TB := z_inT (i := 295) (by decide +kernel) (by decide +kernel)
theorem zw_296 : Cond.instantiable "SlabMap$Log" 2 ∈ z_TB := z_inT (i := 296) (by decide +kernel) (by decide +kernel)
theorem zc_59 : ∀ m, z_ce m 59 0 := fun _ => ⟨z_inT (i := 299) (by decide +kernel) (by decide +kernel), by decide +kernel, by decide +kernel⟩
theorem zy_59 : plainName (z_mY 59).cls = true := by decide +kernel
theorem zw_298 : Cond.instanceMethod (z_mY 59) ∈ z_TB := z_inT (i := 298) (by decide +kernel) (by decide +kernel)
theorem zcl_59 : z_cls[6]? = some ((z_mY 59).cls, TX6, 2) := rfl
theorem zw_391 : Cond.fieldLink (z_mY 119).cls 67 "SlabMap" "log" "LSlabMap$Log;" ∈ z_TB := z_inT (i := 391) (by decide +kernel) (by decide +kernel)
theorem zw_393 : Cond.fieldLink (z_mY 119).cls 71 "SlabMap" "image" "LSlabMap$Edges;" ∈ z_TB := z_inT (i := 393) (by decide +kernel) (by decide +kernel)
theorem zw_394 : Cond.fieldLink (z_mY 119).cls 74 "SlabMap" "imageLog" "LSlabMap$Log;" ∈ z_TB := z_inT (i := 394) (by decide +kernel) (by decide +kernel)
theorem zw_395 : Cond.fieldLink (z_mY 119).cls 77 "SlabMap" "status" "[I" ∈ z_TB := z_inT (i := 395) (by decide +kernel) (by decide +kernel)
theorem zw_308 : Cond.classLink (z_mY 119).cls 80 "SlabMap$Act" ∈ z_TB := z_inT (i := 308) (by decide +kernel) (by decide +kernel)
theorem zw_309 : Cond.instantiable "SlabMap$Act" 7 ∈ z_TB := z_inT (i := 309) (by decide +kernel) (by decide +kernel)
theorem zc_0 : ∀ m, z_ce m 0 0 := fun _ => ⟨z_inT (i := 312) (by decide +kernel) (by decide +kernel), by decide +kernel, by decide +kernel⟩
theorem zy_0 : plainName (z_mY 0).cls = true := by decide +kernel
theorem zw_311 : Cond.instanceMethod (z_mY 0) ∈ z_TB := z_inT (i := 311) (by decide +kernel) (by decide +kernel)
theorem zcl_0 : z_cls[0]? = some ((z_mY 0).cls, TX0, 7) := rfl
theorem zw_396 : Cond.fieldLink (z_mY 119).cls 83 "SlabMap" "act" "LSlabMap$Act;" ∈ z_TB := z_inT (i := 396) (by decide +kernel) (by decide +kernel)
theorem zw_344 : Cond.classLink (z_mY 119).cls 87 "SlabMap$Ends" ∈ z_TB := z_inT (i := 344) (by decide +kernel) (by decide +kernel)
theorem zw_345 : Cond.instantiable "SlabMap$Ends" 5 ∈ z_TB := z_inT (i := 345) (by decide +kernel) (by decide +kernel)
theorem zc_49 : ∀ m, z_ce m 49 0 := fun _ => ⟨z_inT (i := 348) (by decide +kernel) (by decide +kernel), by decide +kernel, by decide +kernel⟩
theorem zy_49 : plainName (z_mY 49).cls = true := by decide +kernel
theorem zw_347 : Cond.instanceMethod (z_mY 49) ∈ z_TB := z_inT (i := 347) (by decide +kernel) (by decide +kernel)
theorem zcl_49 : z_cls[4]? = some ((z_mY 49).cls, TX4, 5) := rfl
theorem zw_397 : Cond.fieldLink (z_mY 119).cls 90 "SlabMap" "ends" "LSlabMap$Ends;" ∈ z_TB := z_inT (i := 397) (by decide +kernel) (by decide +kernel)
theorem zw_366 : Cond.classLink (z_mY 119).cls 94 "SlabMap$Colours" ∈ z_TB := z_inT (i := 366) (by decide +kernel) (by decide +kernel)
theorem zw_367 : Cond.instantiable "SlabMap$Colours" 2 ∈ z_TB := z_inT (i := 367) (by decide +kernel) (by decide +kernel)
theorem zc_8 : ∀ m, z_ce m 8 0 := fun _ => ⟨z_inT (i := 370) (by decide +kernel) (by decide +kernel), by decide +kernel, by decide +kernel⟩
theorem zy_8 : plainName (z_mY 8).cls = true := by decide +kernel
theorem zw_369 : Cond.instanceMethod (z_mY 8) ∈ z_TB := z_inT (i := 369) (by decide +kernel) (by decide +kernel)
theorem zcl_8 : z_cls[1]? = some ((z_mY 8).cls, TX1, 2) := rfl
theorem zw_398 : Cond.fieldLink (z_mY 119).cls 97 "SlabMap" "colours" "LSlabMap$Colours;" ∈ z_TB := z_inT (i := 398) (by decide +kernel) (by decide +kernel)
theorem zc_117 : ∀ m, z_ce m 117 1 := fun _ => ⟨z_inT (i := 444) (by decide +kernel) (by decide +kernel), by decide +kernel, by decide +kernel⟩
theorem zy_117 : plainName (z_mY 117).cls = true := by decide +kernel
theorem zw_442 : Cond.methodLink (z_mY 120).cls 101 (z_mY 117) ∈ z_TB := z_inT (i := 442) (by decide +kernel) (by decide +kernel)
theorem zw_443 : Cond.static (z_mY 117) ∈ z_TB := z_inT (i := 443) (by decide +kernel) (by decide +kernel)
theorem zw_156 : Cond.fieldLink (z_mY 120).cls 105 "SlabMap$Tape" "length" "I" ∈ z_TB := z_inT (i := 156) (by decide +kernel) (by decide +kernel)
theorem zc_118 : ∀ m, z_ce m 118 1 := fun _ => ⟨z_inT (i := 448) (by decide +kernel) (by decide +kernel), by decide +kernel, by decide +kernel⟩
theorem zy_118 : plainName (z_mY 118).cls = true := by decide +kernel
theorem zw_445 : Cond.methodLink (z_mY 120).cls 109 (z_mY 118) ∈ z_TB := z_inT (i := 445) (by decide +kernel) (by decide +kernel)
theorem zw_446 : Cond.instanceMethod (z_mY 118) ∈ z_TB := z_inT (i := 446) (by decide +kernel) (by decide +kernel)
theorem zw_447 : Cond.selects (z_mY 118).cls (z_mY 118) (z_mY 118) ∈ z_TB := z_inT (i := 447) (by decide +kernel) (by decide +kernel)
theorem zcl_118 : z_cls[10]? = some ((z_mY 118).cls, TX10, 2) := rfl
theorem zc_67 : ∀ m, z_ce m 67 0 := fun _ => ⟨z_inT (i := 460) (by decide +kernel) (by decide +kernel), by decide +kernel, by decide +kernel⟩
theorem zy_67 : plainName (z_mY 67).cls = true := by decide +kernel
theorem zw_457 : Cond.methodLink (z_mY 122).cls 113 (z_mY 67) ∈ z_TB := z_inT (i := 457) (by decide +kernel) (by decide +kernel)
theorem zw_458 : Cond.instanceMethod (z_mY 67) ∈ z_TB := z_inT (i := 458) (by decide +kernel) (by decide +kernel)
theorem zw_459 : Cond.selects (z_mY 67).cls (z_mY 67) (z_mY 67) ∈ z_TB := z_inT (i := 459) (by decide +kernel) (by decide +kernel)
theorem zcl_67 : z_cls[7]? = some ((z_mY 67).cls, TX7, 7) := rfl
theorem zc_68 : ∀ m, z_ce m 68 0 := fun _ => ⟨z_inT (i := 518) (by decide +kernel) (by decide +kernel), by decide +kernel, by decide +kernel⟩
theorem zy_68 : plainName (z_mY 68).cls = true := by decide +kernel
theorem zw_515 : Cond.methodLink (z_mY 122).cls 117 (z_mY 68) ∈ z_TB := z_inT (i := 515) (by decide +kernel) (by decide +kernel)
theorem zw_516 : Cond.instanceMethod (z_mY 68) ∈ z_TB := z_inT (i := 516) (by decide +kernel) (by decide +kernel)
theorem zw_517 : Cond.selects (z_mY 68).cls (z_mY 68) (z_mY 68) ∈ z_TB := z_inT (i := 517) (by decide +kernel) (by decide +kernel)
theorem zcl_68 : z_cls[7]? = some ((z_mY 68).cls, TX7, 7) := rfl
theorem zc_124 : ∀ m, z_ce m 124 0 := fun _ => ⟨z_inT (i := 534) (by decide +kernel) (by decide +kernel), by decide +kernel, by decide +kernel⟩
theorem zy_124 : plainName (z_mY 124).cls = true := by decide +kernel
theorem zw_531 : Cond.methodLink (z_mY 123).cls 120 (z_mY 124) ∈ z_TB := z_inT (i := 531) (by decide +kernel) (by decide +kernel)
theorem zw_533 : Cond.instanceMethod (z_mY 124) ∈ z_TB := z_inT (i := 533) (by decide +kernel) (by decide +kernel)
theorem zw_12 : Cond.selects (z_mY 124).cls (z_mY 124) (z_mY 124) ∈ z_TB := z_inT (i := 12) (by decide +kernel) (by decide +kernel)
theorem zcl_124 : z_cls[11]? = some ((z_mY 124).cls, TX11, 19) := rfl
theorem zc_125 : ∀ m, z_ce m 125 0 := fun _ => ⟨z_inT (i := 660) (by decide +kernel) (by decide +kernel), by decide +kernel, by decide +kernel⟩
theorem zy_125 : plainName (z_mY 125).cls = true := by decide +kernel
theorem zw_657 : Cond.methodLink (z_mY 123).cls 123 (z_mY 125) ∈ z_TB := z_inT (i := 657) (by decide +kernel) (by decide +kernel)
theorem zw_659 : Cond.instanceMethod (z_mY 125) ∈ z_TB := z_inT (i := 659) (by decide +kernel) (by decide +kernel)
theorem zw_19 : Cond.selects (z_mY 125).cls (z_mY 125) (z_mY 125) ∈ z_TB := z_inT (i := 19) (by decide +kernel) (by decide +kernel)
theorem zcl_125 : z_cls[11]? = some ((z_mY 125).cls, TX11, 19) := rfl
theorem zw_385 : Cond.fieldLink (z_mY 124).cls 126 "SlabMap" "hasMap" "Z" ∈ z_TB := z_inT (i := 385) (by decide +kernel) (by decide +kernel)
theorem zw_392 : Cond.fieldLink (z_mY 124).cls 130 "SlabMap" "hasImage" "Z" ∈ z_TB := z_inT (i := 392) (by decide +kernel) (by decide +kernel)
theorem zc_55 : ∀ m, z_ce m 55 0 := fun _ => ⟨z_inT (i := 538) (by decide +kernel) (by decide +kernel), by decide +kernel, by decide +kernel⟩
theorem zy_55 : plainName (z_mY 55).cls = true := by decide +kernel
theorem zw_535 : Cond.methodLink (z_mY 124).cls 133 (z_mY 55) ∈ z_TB := z_inT (i := 535) (by decide +kernel) (by decide +kernel)
theorem zw_536 : Cond.instanceMethod (z_mY 55) ∈ z_TB := z_inT (i := 536) (by decide +kernel) (by decide +kernel)
theorem zw_537 : Cond.selects (z_mY 55).cls (z_mY 55) (z_mY 55) ∈ z_TB := z_inT (i := 537) (by decide +kernel) (by decide +kernel)
theorem zcl_55 : z_cls[5]? = some ((z_mY 55).cls, TX5, 3) := rfl
theorem zc_60 : ∀ m, z_ce m 60 0 := fun _ => ⟨z_inT (i := 542) (by decide +kernel) (by decide +kernel), by decide +kernel, by decide +kernel⟩
theorem zy_60 : plainName (z_mY 60).cls = true := by decide +kernel
theorem zw_539 : Cond.methodLink (z_mY 124).cls 136 (z_mY 60) ∈ z_TB := z_inT (i := 539) (by decide +kernel) (by decide +kernel)
theorem zw_540 : Cond.instanceMethod (z_mY 60) ∈ z_TB := z_inT (i := 540) (by decide +kernel) (by decide +kernel)
theorem zw_541 : Cond.selects (z_mY 60).cls (z_mY 60) (z_mY 60) ∈ z_TB := z_inT (i := 541) (by decide +kernel) (by decide +kernel)
theorem zcl_60 : z_cls[6]? = some ((z_mY 60).cls, TX6, 2) := rfl
theorem zw_194 : Cond.fieldLink (z_mY 124).cls 137 "SlabMap$Reader" "names" "[I" ∈ z_TB := z_inT (i := 194) (by decide +kernel) (by decide +kernel)
theorem zw_543 : Cond.methodLink (z_mY 124).cls 138 arraycopyName ∈ z_TB := z_inT (i := 543) (by decide +kernel) (by decide +kernel)
theorem zc_16 : ∀ m, z_ce m 16 0 := fun _ => ⟨z_inT (i := 549) (by decide +kernel) (by decide +kernel), by decide +kernel, by decide +kernel⟩
theorem zy_16 : plainName (z_mY 16).cls = true := by decide +kernel
theorem zw_546 : Cond.methodLink (z_mY 124).cls 144 (z_mY 16) ∈ z_TB := z_inT (i := 546) (by decide +kernel) (by decide +kernel)
theorem zw_547 : Cond.instanceMethod (z_mY 16) ∈ z_TB := z_inT (i := 547) (by decide +kernel) (by decide +kernel)
theorem zw_548 : Cond.selects (z_mY 16).cls (z_mY 16) (z_mY 16) ∈ z_TB := z_inT (i := 548) (by decide +kernel) (by decide +kernel)
theorem zcl_16 : z_cls[3]? = some ((z_mY 16).cls, TX3, 2) := rfl
theorem zw_242 : Cond.fieldLink (z_mY 124).cls 145 "SlabMap$Slabs" "stale" "Z" ∈ z_TB := z_inT (i := 242) (by decide +kernel) (by decide +kernel)
theorem zw_192 : Cond.fieldLink (z_mY 124).cls 148 "SlabMap$Reader" "edgeCount" "I" ∈ z_TB := z_inT (i := 192) (by decide +kernel) (by decide +kernel)
theorem zw_190 : Cond.fieldLink (z_mY 124).cls 151 "SlabMap$Reader" "edges" "[I" ∈ z_TB := z_inT (i := 190) (by decide +kernel) (by decide +kernel)
theorem zw_550 : Cond.fieldLink (z_mY 124).cls 154 "SlabMap" "NUMBERS_OF_SORT" "[I" ∈ z_TB := z_inT (i := 550) (by decide +kernel) (by decide +kernel)
theorem zw_551 : Cond.methodLink (z_mY 124).cls 157 (z_mY 6) ∈ z_TB := z_inT (i := 551) (by decide +kernel) (by decide +kernel)
theorem zc_35 : ∀ m, z_ce m 35 1 := fun _ => ⟨z_inT (i := 575) (by decide +kernel) (by decide +kernel), by decide +kernel, by decide +kernel⟩
theorem zy_35 : plainName (z_mY 35).cls = true := by decide +kernel
theorem zw_572 : Cond.methodLink (z_mY 124).cls 161 (z_mY 35) ∈ z_TB := z_inT (i := 572) (by decide +kernel) (by decide +kernel)
theorem zw_573 : Cond.instanceMethod (z_mY 35) ∈ z_TB := z_inT (i := 573) (by decide +kernel) (by decide +kernel)
theorem zw_574 : Cond.selects (z_mY 35).cls (z_mY 35) (z_mY 35) ∈ z_TB := z_inT (i := 574) (by decide +kernel) (by decide +kernel)
theorem zcl_35 : z_cls[3]? = some ((z_mY 35).cls, TX3, 2) := rfl
theorem zc_40 : ∀ m, z_ce m 40 1 := fun _ => ⟨z_inT (i := 644) (by decide +kernel) (by decide +kernel), by decide +kernel, by decide +kernel⟩
theorem zy_40 : plainName (z_mY 40).cls = true := by decide +kernel
theorem zw_641 : Cond.methodLink (z_mY 124).cls 165 (z_mY 40) ∈ z_TB := z_inT (i := 641) (by decide +kernel) (by decide +kernel)
theorem zw_642 : Cond.instanceMethod (z_mY 40) ∈ z_TB := z_inT (i := 642) (by decide +kernel) (by decide +kernel)
theorem zw_643 : Cond.selects (z_mY 40).cls (z_mY 40) (z_mY 40) ∈ z_TB := z_inT (i := 643) (by decide +kernel) (by decide +kernel)
theorem zcl_40 : z_cls[3]? = some ((z_mY 40).cls, TX3, 2) := rfl
theorem zw_229 : Cond.fieldLink (z_mY 124).cls 168 "SlabMap$Edges" "count" "I" ∈ z_TB := z_inT (i := 229) (by decide +kernel) (by decide +kernel)
theorem zw_384 : Cond.fieldLink (z_mY 125).cls 171 "SlabMap" "scriptCount" "I" ∈ z_TB := z_inT (i := 384) (by decide +kernel) (by decide +kernel)
theorem zw_196 : Cond.fieldLink (z_mY 125).cls 175 "SlabMap$Reader" "steps" "LSlabMap$Steps;" ∈ z_TB := z_inT (i := 196) (by decide +kernel) (by decide +kernel)
theorem zc_114 : ∀ m, z_ce m 114 1 := fun _ => ⟨z_inT (i := 665) (by decide +kernel) (by decide +kernel), by decide +kernel, by decide +kernel⟩
theorem zy_114 : plainName (z_mY 114).cls = true := by decide +kernel
theorem zw_662 : Cond.methodLink (z_mY 125).cls 179 (z_mY 114) ∈ z_TB := z_inT (i := 662) (by decide +kernel) (by decide +kernel)
theorem zw_663 : Cond.instanceMethod (z_mY 114) ∈ z_TB := z_inT (i := 663) (by decide +kernel) (by decide +kernel)
theorem zw_664 : Cond.selects (z_mY 114).cls (z_mY 114) (z_mY 114) ∈ z_TB := z_inT (i := 664) (by decide +kernel) (by decide +kernel)
theorem zcl_114 : z_cls[9]? = some ((z_mY 114).cls, TX9, 2) := rfl
theorem zc_45 : ∀ m, z_ce m 45 0 := fun _ => ⟨z_inT (i := 674) (by decide +kernel) (by decide +kernel), by decide +kernel, by decide +kernel⟩
theorem zy_45 : plainName (z_mY 45).cls = true := by decide +kernel
theorem zw_671 : Cond.methodLink (z_mY 126).cls 183 (z_mY 45) ∈ z_TB := z_inT (i := 671) (by decide +kernel) (by decide +kernel)
theorem zw_672 : Cond.instanceMethod (z_mY 45) ∈ z_TB := z_inT (i := 672) (by decide +kernel) (by decide +kernel)
theorem zw_673 : Cond.selects (z_mY 45).cls (z_mY 45) (z_mY 45) ∈ z_TB := z_inT (i := 673) (by decide +kernel) (by decide +kernel)
theorem zcl_45 : z_cls[3]? = some ((z_mY 45).cls, TX3, 2) := rfl
theorem zc_46 : ∀ m, z_ce m 46 0 := fun _ => ⟨z_inT (i := 688) (by decide +kernel) (by decide +kernel), by decide +kernel, by decide +kernel⟩
theorem zy_46 : plainName (z_mY 46).cls = true := by decide +kernel
theorem zw_685 : Cond.methodLink (z_mY 126).cls 186 (z_mY 46) ∈ z_TB := z_inT (i := 685) (by decide +kernel) (by decide +kernel)
theorem zw_686 : Cond.instanceMethod (z_mY 46) ∈ z_TB := z_inT (i := 686) (by decide +kernel) (by decide +kernel)
theorem zw_687 : Cond.selects (z_mY 46).cls (z_mY 46) (z_mY 46) ∈ z_TB := z_inT (i := 687) (by decide +kernel) (by decide +kernel)
theorem zcl_46 : z_cls[3]? = some ((z_mY 46).cls, TX3, 2) := rfl
theorem zw_689 : Cond.methodLink (z_mY 126).cls 189 (z_mY 294) ∈ z_TB := z_inT (i := 689) (by decide +kernel) (by decide +kernel)
theorem zc_127 : ∀ m, z_ce m 127 0 := fun _ => ⟨z_inT (i := 698) (by decide +kernel) (by decide +kernel), by decide +kernel, by decide +kernel⟩
theorem zy_127 : plainName (z_mY 127).cls = true := by decide +kernel
theorem zw_695 : Cond.methodLink (z_mY 126).cls 194 (z_mY 127) ∈ z_TB := z_inT (i := 695) (by decide +kernel) (by decide +kernel)
theorem zw_697 : Cond.instanceMethod (z_mY 127) ∈ z_TB := z_inT (i := 697) (by decide +kernel) (by decide +kernel)
theorem zw_20 : Cond.selects (z_mY 127).cls (z_mY 127) (z_mY 127) ∈ z_TB := z_inT (i := 20) (by decide +kernel) (by decide +kernel)
theorem zcl_127 : z_cls[11]? = some ((z_mY 127).cls, TX11, 19) := rfl
theorem zw_803 : Cond.methodLink (z_mY 128).cls 197 (z_mY 19) ∈ z_TB := z_inT (i := 803) (by decide +kernel) (by decide +kernel)
theorem zw_1200 : Cond.methodLink (z_mY 128).cls 204 (z_mY 20) ∈ z_TB := z_inT (i := 1200) (by decide +kernel) (by decide +kernel)
theorem zw_1201 : Cond.methodLink (z_mY 128).cls 207 (z_mY 21) ∈ z_TB := z_inT (i := 1201) (by decide +kernel) (by decide +kernel)
theorem zw_1202 : Cond.methodLink (z_mY 128).cls 210 (z_mY 22) ∈ z_TB := z_inT (i := 1202) (by decide +kernel) (by decide +kernel)
theorem zw_1203 : Cond.methodLink (z_mY 128).cls 213 (z_mY 23) ∈ z_TB := z_inT (i := 1203) (by decide +kernel) (by decide +kernel)
theorem zw_1204 : Cond.methodLink (z_mY 128).cls 216 (z_mY 24) ∈ z_TB := z_inT (i := 1204) (by decide +kernel) (by decide +kernel)
theorem zc_168 : ∀ m, z_ce m 168 0 := fun _ => ⟨z_inT (i := 706) (by decide +kernel) (by decide +kernel), by decide +kernel, by decide +kernel⟩
theorem zy_168 : plainName (z_mY 168).cls = true := by decide +kernel
theorem zw_703 : Cond.methodLink (z_mY 128).cls 219 (z_mY 168) ∈ z_TB := z_inT (i := 703) (by decide +kernel) (by decide +kernel)
theorem zw_705 : Cond.instanceMethod (z_mY 168) ∈ z_TB := z_inT (i := 705) (by decide +kernel) (by decide +kernel)
theorem zw_21 : Cond.selects (z_mY 168).cls (z_mY 168) (z_mY 168) ∈ z_TB := z_inT (i := 21) (by decide +kernel) (by decide +kernel)
theorem zcl_168 : z_cls[11]? = some ((z_mY 168).cls, TX11, 19) := rfl
theorem zc_93 : ∀ m, z_ce m 93 1 := fun _ => ⟨z_inT (i := 1208) (by decide +kernel) (by decide +kernel), by decide +kernel, by decide +kernel⟩
theorem zy_93 : plainName (z_mY 93).cls = true := by decide +kernel
theorem zw_1205 : Cond.methodLink (z_mY 128).cls 223 (z_mY 93) ∈ z_TB := z_inT (i := 1205) (by decide +kernel) (by decide +kernel)
theorem zw_1206 : Cond.instanceMethod (z_mY 93) ∈ z_TB := z_inT (i := 1206) (by decide +kernel) (by decide +kernel)
theorem zw_1207 : Cond.selects (z_mY 93).cls (z_mY 93) (z_mY 93) ∈ z_TB := z_inT (i := 1207) (by decide +kernel) (by decide +kernel)
theorem zcl_93 : z_cls[8]? = some ((z_mY 93).cls, TX8, 11) := rfl
theorem zw_245 : Cond.fieldLink (z_mY 129).cls 226 "SlabMap$Slabs" "count" "I" ∈ z_TB := z_inT (i := 245) (by decide +kernel) (by decide +kernel)
theorem zw_744 : Cond.methodLink (z_mY 129).cls 227 (z_mY 89) ∈ z_TB := z_inT (i := 744) (by decide +kernel) (by decide +kernel)
theorem zw_745 : Cond.methodLink (z_mY 129).cls 230 (z_mY 90) ∈ z_TB := z_inT (i := 745) (by decide +kernel) (by decide +kernel)
theorem zw_746 : Cond.methodLink (z_mY 129).cls 233 (z_mY 91) ∈ z_TB := z_inT (i := 746) (by decide +kernel) (by decide +kernel)
theorem zw_754 : Cond.methodLink (z_mY 130).cls 235 (z_mY 92) ∈ z_TB := z_inT (i := 754) (by decide +kernel) (by decide +kernel)
theorem zc_169 : ∀ m, z_ce m 169 1 := fun _ => ⟨z_inT (i := 766) (by decide +kernel) (by decide +kernel), by decide +kernel, by decide +kernel⟩
theorem zy_169 : plainName (z_mY 169).cls = true := by decide +kernel
theorem zw_763 : Cond.methodLink (z_mY 131).cls 239 (z_mY 169) ∈ z_TB := z_inT (i := 763) (by decide +kernel) (by decide +kernel)
theorem zw_765 : Cond.instanceMethod (z_mY 169) ∈ z_TB := z_inT (i := 765) (by decide +kernel) (by decide +kernel)
theorem zw_24 : Cond.selects (z_mY 169).cls (z_mY 169) (z_mY 169) ∈ z_TB := z_inT (i := 24) (by decide +kernel) (by decide +kernel)
theorem zcl_169 : z_cls[11]? = some ((z_mY 169).cls, TX11, 19) := rfl
theorem zw_776 : Cond.methodLink (z_mY 131).cls 243 (z_mY 166) ∈ z_TB := z_inT (i := 776) (by decide +kernel) (by decide +kernel)
theorem zw_777 : Cond.methodLink (z_mY 131).cls 247 (z_mY 94) ∈ z_TB := z_inT (i := 777) (by decide +kernel) (by decide +kernel)
theorem zc_95 : ∀ m, z_ce m 95 3 := fun _ => ⟨z_inT (i := 784) (by decide +kernel) (by decide +kernel), by decide +kernel, by decide +kernel⟩
theorem zy_95 : plainName (z_mY 95).cls = true := by decide +kernel
theorem zw_781 : Cond.methodLink (z_mY 131).cls 250 (z_mY 95) ∈ z_TB := z_inT (i := 781) (by decide +kernel) (by decide +kernel)
theorem zw_782 : Cond.instanceMethod (z_mY 95) ∈ z_TB := z_inT (i := 782) (by decide +kernel) (by decide +kernel)
theorem zw_783 : Cond.selects (z_mY 95).cls (z_mY 95) (z_mY 95) ∈ z_TB := z_inT (i := 783) (by decide +kernel) (by decide +kernel)
theorem zcl_95 : z_cls[8]? = some ((z_mY 95).cls, TX8, 11) := rfl
theorem zw_790 : Cond.methodLink (z_mY 131).cls 254 (z_mY 96) ∈ z_TB := z_inT (i := 790) (by decide +kernel) (by decide +kernel)
theorem zw_804 : Cond.methodLink (z_mY 133).cls 257 (z_mY 31) ∈ z_TB := z_inT (i := 804) (by decide +kernel) (by decide +kernel)
theorem zw_809 : Cond.methodLink (z_mY 134).cls 261 (z_mY 167) ∈ z_TB := z_inT (i := 809) (by decide +kernel) (by decide +kernel)
theorem zw_810 : Cond.methodLink (z_mY 134).cls 264 (z_mY 105) ∈ z_TB := z_inT (i := 810) (by decide +kernel) (by decide +kernel)
theorem zw_832 : Cond.methodLink (z_mY 135).cls 268 (z_mY 100) ∈ z_TB := z_inT (i := 832) (by decide +kernel) (by decide +kernel)
theorem zc_9 : ∀ m, z_ce m 9 1 := fun _ => ⟨z_inT (i := 844) (by decide +kernel) (by decide +kernel), by decide +kernel, by decide +kernel⟩
theorem zy_9 : plainName (z_mY 9).cls = true := by decide +kernel
theorem zw_841 : Cond.methodLink (z_mY 136).cls 271 (z_mY 9) ∈ z_TB := z_inT (i := 841) (by decide +kernel) (by decide +kernel)
theorem zw_842 : Cond.instanceMethod (z_mY 9) ∈ z_TB := z_inT (i := 842) (by decide +kernel) (by decide +kernel)
theorem zw_843 : Cond.selects (z_mY 9).cls (z_mY 9) (z_mY 9) ∈ z_TB := z_inT (i := 843) (by decide +kernel) (by decide +kernel)
theorem zcl_9 : z_cls[1]? = some ((z_mY 9).cls, TX1, 2) := rfl
theorem zw_373 : Cond.fieldLink (z_mY 136).cls 275 "SlabMap$Colours" "many" "I" ∈ z_TB := z_inT (i := 373) (by decide +kernel) (by decide +kernel)
theorem zc_10 : ∀ m, z_ce m 10 1 := fun _ => ⟨z_inT (i := 855) (by decide +kernel) (by decide +kernel), by decide +kernel, by decide +kernel⟩
theorem zy_10 : plainName (z_mY 10).cls = true := by decide +kernel
theorem zw_852 : Cond.methodLink (z_mY 136).cls 278 (z_mY 10) ∈ z_TB := z_inT (i := 852) (by decide +kernel) (by decide +kernel)
theorem zw_853 : Cond.instanceMethod (z_mY 10) ∈ z_TB := z_inT (i := 853) (by decide +kernel) (by decide +kernel)
theorem zw_854 : Cond.selects (z_mY 10).cls (z_mY 10) (z_mY 10) ∈ z_TB := z_inT (i := 854) (by decide +kernel) (by decide +kernel)
theorem zcl_10 : z_cls[1]? = some ((z_mY 10).cls, TX1, 2) := rfl
theorem zw_861 : Cond.methodLink (z_mY 137).cls 281 (z_mY 1) ∈ z_TB := z_inT (i := 861) (by decide +kernel) (by decide +kernel)
theorem zc_141 : ∀ m, z_ce m 141 0 := fun _ => ⟨z_inT (i := 865) (by decide +kernel) (by decide +kernel), by decide +kernel, by decide +kernel⟩
theorem zy_141 : plainName (z_mY 141).cls = true := by decide +kernel
theorem zw_862 : Cond.methodLink (z_mY 137).cls 285 (z_mY 141) ∈ z_TB := z_inT (i := 862) (by decide +kernel) (by decide +kernel)
theorem zw_864 : Cond.instanceMethod (z_mY 141) ∈ z_TB := z_inT (i := 864) (by decide +kernel) (by decide +kernel)
theorem zw_27 : Cond.selects (z_mY 141).cls (z_mY 141) (z_mY 141) ∈ z_TB := z_inT (i := 27) (by decide +kernel) (by decide +kernel)
theorem zcl_141 : z_cls[11]? = some ((z_mY 141).cls, TX11, 19) := rfl
theorem zw_888 : Cond.methodLink (z_mY 138).cls 288 (z_mY 2) ∈ z_TB := z_inT (i := 888) (by decide +kernel) (by decide +kernel)
theorem zw_893 : Cond.methodLink (z_mY 139).cls 291 (z_mY 3) ∈ z_TB := z_inT (i := 893) (by decide +kernel) (by decide +kernel)
theorem zw_898 : Cond.methodLink (z_mY 140).cls 295 (z_mY 4) ∈ z_TB := z_inT (i := 898) (by decide +kernel) (by decide +kernel)
theorem zc_142 : ∀ m, z_ce m 142 0 := fun _ => ⟨z_inT (i := 869) (by decide +kernel) (by decide +kernel), by decide +kernel, by decide +kernel⟩
theorem zy_142 : plainName (z_mY 142).cls = true := by decide +kernel
theorem zw_866 : Cond.methodLink (z_mY 141).cls 298 (z_mY 142) ∈ z_TB := z_inT (i := 866) (by decide +kernel) (by decide +kernel)
theorem zw_868 : Cond.instanceMethod (z_mY 142) ∈ z_TB := z_inT (i := 868) (by decide +kernel) (by decide +kernel)
theorem zw_28 : Cond.selects (z_mY 142).cls (z_mY 142) (z_mY 142) ∈ z_TB := z_inT (i := 28) (by decide +kernel) (by decide +kernel)
theorem zcl_142 : z_cls[11]? = some ((z_mY 142).cls, TX11, 19) := rfl
theorem zc_56 : ∀ m, z_ce m 56 1 := fun _ => ⟨z_inT (i := 873) (by decide +kernel) (by decide +kernel), by decide +kernel, by decide +kernel⟩
theorem zy_56 : plainName (z_mY 56).cls = true := by decide +kernel
theorem zw_870 : Cond.methodLink (z_mY 142).cls 301 (z_mY 56) ∈ z_TB := z_inT (i := 870) (by decide +kernel) (by decide +kernel)
theorem zw_871 : Cond.instanceMethod (z_mY 56) ∈ z_TB := z_inT (i := 871) (by decide +kernel) (by decide +kernel)
theorem zw_872 : Cond.selects (z_mY 56).cls (z_mY 56) (z_mY 56) ∈ z_TB := z_inT (i := 872) (by decide +kernel) (by decide +kernel)
theorem zcl_56 : z_cls[5]? = some ((z_mY 56).cls, TX5, 3) := rfl
theorem zw_316 : Cond.fieldLink (z_mY 142).cls 304 "SlabMap$Act" "sort" "I" ∈ z_TB := z_inT (i := 316) (by decide +kernel) (by decide +kernel)
theorem zc_7 : ∀ m, z_ce m 7 1 := fun _ => ⟨z_inT (i := 879) (by decide +kernel) (by decide +kernel), by decide +kernel, by decide +kernel⟩
theorem zy_7 : plainName (z_mY 7).cls = true := by decide +kernel
theorem zw_876 : Cond.methodLink (z_mY 142).cls 307 (z_mY 7) ∈ z_TB := z_inT (i := 876) (by decide +kernel) (by decide +kernel)
theorem zw_877 : Cond.instanceMethod (z_mY 7) ∈ z_TB := z_inT (i := 877) (by decide +kernel) (by decide +kernel)
theorem zw_878 : Cond.selects (z_mY 7).cls (z_mY 7) (z_mY 7) ∈ z_TB := z_inT (i := 878) (by decide +kernel) (by decide +kernel)
theorem zcl_7 : z_cls[0]? = some ((z_mY 7).cls, TX0, 7) := rfl
theorem zc_62 : ∀ m, z_ce m 62 3 := fun _ => ⟨z_inT (i := 883) (by decide +kernel) (by decide +kernel), by decide +kernel, by decide +kernel⟩
theorem zy_62 : plainName (z_mY 62).cls = true := by decide +kernel
theorem zw_880 : Cond.methodLink (z_mY 142).cls 310 (z_mY 62) ∈ z_TB := z_inT (i := 880) (by decide +kernel) (by decide +kernel)
theorem zw_881 : Cond.instanceMethod (z_mY 62) ∈ z_TB := z_inT (i := 881) (by decide +kernel) (by decide +kernel)
theorem zw_882 : Cond.selects (z_mY 62).cls (z_mY 62) (z_mY 62) ∈ z_TB := z_inT (i := 882) (by decide +kernel) (by decide +kernel)
theorem zcl_62 : z_cls[6]? = some ((z_mY 62).cls, TX6, 2) := rfl
theorem zw_903 : Cond.classLink (z_mY 143).cls 314 "SlabMap$Draws" ∈ z_TB := z_inT (i := 903) (by decide +kernel) (by decide +kernel)
theorem zw_904 : Cond.instantiable "SlabMap$Draws" 1 ∈ z_TB := z_inT (i := 904) (by decide +kernel) (by decide +kernel)
theorem zw_138 : Cond.initialized "SlabMap$Draws" ∈ z_TB := z_inT (i := 138) (by decide +kernel) (by decide +kernel)
theorem zc_13 : ∀ m, z_ce m 13 1 := fun _ => ⟨z_inT (i := 907) (by decide +kernel) (by decide +kernel), by decide +kernel, by decide +kernel⟩
theorem zy_13 : plainName (z_mY 13).cls = true := by decide +kernel
theorem zw_905 : Cond.methodLink (z_mY 143).cls 316 (z_mY 13) ∈ z_TB := z_inT (i := 905) (by decide +kernel) (by decide +kernel)
theorem zw_906 : Cond.instanceMethod (z_mY 13) ∈ z_TB := z_inT (i := 906) (by decide +kernel) (by decide +kernel)
theorem zcl_13 : z_cls[2]? = some ((z_mY 13).cls, TX2, 1) := rfl
theorem zc_144 : ∀ m, z_ce m 144 1 := fun _ => ⟨z_inT (i := 916) (by decide +kernel) (by decide +kernel), by decide +kernel, by decide +kernel⟩
theorem zy_144 : plainName (z_mY 144).cls = true := by decide +kernel
theorem zw_913 : Cond.methodLink (z_mY 143).cls 319 (z_mY 144) ∈ z_TB := z_inT (i := 913) (by decide +kernel) (by decide +kernel)
theorem zw_915 : Cond.instanceMethod (z_mY 144) ∈ z_TB := z_inT (i := 915) (by decide +kernel) (by decide +kernel)
theorem zw_29 : Cond.selects (z_mY 144).cls (z_mY 144) (z_mY 144) ∈ z_TB := z_inT (i := 29) (by decide +kernel) (by decide +kernel)
theorem zcl_144 : z_cls[11]? = some ((z_mY 144).cls, TX11, 19) := rfl
theorem zc_14 : ∀ m, z_ce m 14 1 := fun _ => ⟨z_inT (i := 920) (by decide +kernel) (by decide +kernel), by decide +kernel, by decide +kernel⟩
theorem zy_14 : plainName (z_mY 14).cls = true := by decide +kernel
theorem zw_917 : Cond.methodLink (z_mY 144).cls 323 (z_mY 14) ∈ z_TB := z_inT (i := 917) (by decide +kernel) (by decide +kernel)
theorem zw_918 : Cond.instanceMethod (z_mY 14) ∈ z_TB := z_inT (i := 918) (by decide +kernel) (by decide +kernel)
theorem zw_919 : Cond.selects (z_mY 14).cls (z_mY 14) (z_mY 14) ∈ z_TB := z_inT (i := 919) (by decide +kernel) (by decide +kernel)
theorem zcl_14 : z_cls[2]? = some ((z_mY 14).cls, TX2, 1) := rfl
theorem zc_145 : ∀ m, z_ce m 145 1 := fun _ => ⟨z_inT (i := 926) (by decide +kernel) (by decide +kernel), by decide +kernel, by decide +kernel⟩
theorem zy_145 : plainName (z_mY 145).cls = true := by decide +kernel
theorem zw_923 : Cond.methodLink (z_mY 144).cls 326 (z_mY 145) ∈ z_TB := z_inT (i := 923) (by decide +kernel) (by decide +kernel)
theorem zw_925 : Cond.instanceMethod (z_mY 145) ∈ z_TB := z_inT (i := 925) (by decide +kernel) (by decide +kernel)
theorem zw_30 : Cond.selects (z_mY 145).cls (z_mY 145) (z_mY 145) ∈ z_TB := z_inT (i := 30) (by decide +kernel) (by decide +kernel)
theorem zcl_145 : z_cls[11]? = some ((z_mY 145).cls, TX11, 19) := rfl
theorem zw_285 : Cond.fieldLink (z_mY 147).cls 329 "SlabMap$History" "count" "I" ∈ z_TB := z_inT (i := 285) (by decide +kernel) (by decide +kernel)
theorem zc_58 : ∀ m, z_ce m 58 1 := fun _ => ⟨z_inT (i := 938) (by decide +kernel) (by decide +kernel), by decide +kernel, by decide +kernel⟩
theorem zy_58 : plainName (z_mY 58).cls = true := by decide +kernel
theorem zw_935 : Cond.methodLink (z_mY 147).cls 330 (z_mY 58) ∈ z_TB := z_inT (i := 935) (by decide +kernel) (by decide +kernel)
theorem zw_936 : Cond.instanceMethod (z_mY 58) ∈ z_TB := z_inT (i := 936) (by decide +kernel) (by decide +kernel)
theorem zw_937 : Cond.selects (z_mY 58).cls (z_mY 58) (z_mY 58) ∈ z_TB := z_inT (i := 937) (by decide +kernel) (by decide +kernel)
theorem zcl_58 : z_cls[5]? = some ((z_mY 58).cls, TX5, 3) := rfl
theorem zc_63 : ∀ m, z_ce m 63 0 := fun _ => ⟨z_inT (i := 943) (by decide +kernel) (by decide +kernel), by decide +kernel, by decide +kernel⟩
theorem zy_63 : plainName (z_mY 63).cls = true := by decide +kernel
theorem zw_940 : Cond.methodLink (z_mY 147).cls 333 (z_mY 63) ∈ z_TB := z_inT (i := 940) (by decide +kernel) (by decide +kernel)
theorem zw_941 : Cond.instanceMethod (z_mY 63) ∈ z_TB := z_inT (i := 941) (by decide +kernel) (by decide +kernel)
theorem zw_942 : Cond.selects (z_mY 63).cls (z_mY 63) (z_mY 63) ∈ z_TB := z_inT (i := 942) (by decide +kernel) (by decide +kernel)
theorem zcl_63 : z_cls[6]? = some ((z_mY 63).cls, TX6, 2) := rfl
theorem zc_65 : ∀ m, z_ce m 65 2 := fun _ => ⟨z_inT (i := 952) (by decide +kernel) (by decide +kernel), by decide +kernel, by decide +kernel⟩
theorem zy_65 : plainName (z_mY 65).cls = true := by decide +kernel
theorem zw_949 : Cond.methodLink (z_mY 148).cls 336 (z_mY 65) ∈ z_TB := z_inT (i := 949) (by decide +kernel) (by decide +kernel)
theorem zw_950 : Cond.instanceMethod (z_mY 65) ∈ z_TB := z_inT (i := 950) (by decide +kernel) (by decide +kernel)
theorem zw_951 : Cond.selects (z_mY 65).cls (z_mY 65) (z_mY 65) ∈ z_TB := z_inT (i := 951) (by decide +kernel) (by decide +kernel)
theorem zcl_65 : z_cls[6]? = some ((z_mY 65).cls, TX6, 2) := rfl
theorem zc_102 : ∀ m, z_ce m 102 0 := fun _ => ⟨z_inT (i := 966) (by decide +kernel) (by decide +kernel), by decide +kernel, by decide +kernel⟩
theorem zy_102 : plainName (z_mY 102).cls = true := by decide +kernel
theorem zw_963 : Cond.methodLink (z_mY 149).cls 339 (z_mY 102) ∈ z_TB := z_inT (i := 963) (by decide +kernel) (by decide +kernel)
theorem zw_964 : Cond.instanceMethod (z_mY 102) ∈ z_TB := z_inT (i := 964) (by decide +kernel) (by decide +kernel)
theorem zw_965 : Cond.selects (z_mY 102).cls (z_mY 102) (z_mY 102) ∈ z_TB := z_inT (i := 965) (by decide +kernel) (by decide +kernel)
theorem zcl_102 : z_cls[8]? = some ((z_mY 102).cls, TX8, 11) := rfl
theorem zc_50 : ∀ m, z_ce m 50 2 := fun _ => ⟨z_inT (i := 974) (by decide +kernel) (by decide +kernel), by decide +kernel, by decide +kernel⟩
theorem zy_50 : plainName (z_mY 50).cls = true := by decide +kernel
theorem zw_971 : Cond.methodLink (z_mY 150).cls 342 (z_mY 50) ∈ z_TB := z_inT (i := 971) (by decide +kernel) (by decide +kernel)
theorem zw_972 : Cond.instanceMethod (z_mY 50) ∈ z_TB := z_inT (i := 972) (by decide +kernel) (by decide +kernel)
theorem zw_973 : Cond.selects (z_mY 50).cls (z_mY 50) (z_mY 50) ∈ z_TB := z_inT (i := 973) (by decide +kernel) (by decide +kernel)
theorem zcl_50 : z_cls[4]? = some ((z_mY 50).cls, TX4, 5) := rfl
theorem zc_108 : ∀ m, z_ce m 108 1 := fun _ => ⟨z_inT (i := 996) (by decide +kernel) (by decide +kernel), by decide +kernel, by decide +kernel⟩
theorem zy_108 : plainName (z_mY 108).cls = true := by decide +kernel
theorem zw_993 : Cond.methodLink (z_mY 151).cls 346 (z_mY 108) ∈ z_TB := z_inT (i := 993) (by decide +kernel) (by decide +kernel)
theorem zw_994 : Cond.instanceMethod (z_mY 108) ∈ z_TB := z_inT (i := 994) (by decide +kernel) (by decide +kernel)
theorem zw_995 : Cond.selects (z_mY 108).cls (z_mY 108) (z_mY 108) ∈ z_TB := z_inT (i := 995) (by decide +kernel) (by decide +kernel)
theorem zcl_108 : z_cls[8]? = some ((z_mY 108).cls, TX8, 11) := rfl
theorem zc_110 : ∀ m, z_ce m 110 1 := fun _ => ⟨z_inT (i := 1005) (by decide +kernel) (by decide +kernel), by decide +kernel, by decide +kernel⟩
theorem zy_110 : plainName (z_mY 110).cls = true := by decide +kernel
theorem zw_1002 : Cond.methodLink (z_mY 151).cls 350 (z_mY 110) ∈ z_TB := z_inT (i := 1002) (by decide +kernel) (by decide +kernel)
theorem zw_1003 : Cond.instanceMethod (z_mY 110) ∈ z_TB := z_inT (i := 1003) (by decide +kernel) (by decide +kernel)
theorem zw_1004 : Cond.selects (z_mY 110).cls (z_mY 110) (z_mY 110) ∈ z_TB := z_inT (i := 1004) (by decide +kernel) (by decide +kernel)
theorem zcl_110 : z_cls[8]? = some ((z_mY 110).cls, TX8, 11) := rfl
theorem zc_98 : ∀ m, z_ce m 98 0 := fun _ => ⟨z_inT (i := 1021) (by decide +kernel) (by decide +kernel), by decide +kernel, by decide +kernel⟩
theorem zy_98 : plainName (z_mY 98).cls = true := by decide +kernel
theorem zw_1018 : Cond.methodLink (z_mY 152).cls 353 (z_mY 98) ∈ z_TB := z_inT (i := 1018) (by decide +kernel) (by decide +kernel)
theorem zw_1019 : Cond.instanceMethod (z_mY 98) ∈ z_TB := z_inT (i := 1019) (by decide +kernel) (by decide +kernel)
theorem zw_1020 : Cond.selects (z_mY 98).cls (z_mY 98) (z_mY 98) ∈ z_TB := z_inT (i := 1020) (by decide +kernel) (by decide +kernel)
theorem zcl_98 : z_cls[8]? = some ((z_mY 98).cls, TX8, 11) := rfl
theorem zc_99 : ∀ m, z_ce m 99 0 := fun _ => ⟨z_inT (i := 1025) (by decide +kernel) (by decide +kernel), by decide +kernel, by decide +kernel⟩
theorem zy_99 : plainName (z_mY 99).cls = true := by decide +kernel
theorem zw_1022 : Cond.methodLink (z_mY 152).cls 356 (z_mY 99) ∈ z_TB := z_inT (i := 1022) (by decide +kernel) (by decide +kernel)
theorem zw_1023 : Cond.instanceMethod (z_mY 99) ∈ z_TB := z_inT (i := 1023) (by decide +kernel) (by decide +kernel)
theorem zw_1024 : Cond.selects (z_mY 99).cls (z_mY 99) (z_mY 99) ∈ z_TB := z_inT (i := 1024) (by decide +kernel) (by decide +kernel)
theorem zcl_99 : z_cls[8]? = some ((z_mY 99).cls, TX8, 11) := rfl
theorem zc_17 : ∀ m, z_ce m 17 1 := fun _ => ⟨z_inT (i := 1033) (by decide +kernel) (by decide +kernel), by decide +kernel, by decide +kernel⟩
theorem zy_17 : plainName (z_mY 17).cls = true := by decide +kernel
theorem zw_1030 : Cond.methodLink (z_mY 153).cls 359 (z_mY 17) ∈ z_TB := z_inT (i := 1030) (by decide +kernel) (by decide +kernel)
theorem zw_1031 : Cond.instanceMethod (z_mY 17) ∈ z_TB := z_inT (i := 1031) (by decide +kernel) (by decide +kernel)
theorem zw_1032 : Cond.selects (z_mY 17).cls (z_mY 17) (z_mY 17) ∈ z_TB := z_inT (i := 1032) (by decide +kernel) (by decide +kernel)
theorem zcl_17 : z_cls[3]? = some ((z_mY 17).cls, TX3, 2) := rfl
theorem zc_86 : ∀ m, z_ce m 86 0 := fun _ => ⟨z_inT (i := 710) (by decide +kernel) (by decide +kernel), by decide +kernel, by decide +kernel⟩
theorem zy_86 : plainName (z_mY 86).cls = true := by decide +kernel
theorem zw_707 : Cond.methodLink (z_mY 153).cls 361 (z_mY 86) ∈ z_TB := z_inT (i := 707) (by decide +kernel) (by decide +kernel)
theorem zw_708 : Cond.instanceMethod (z_mY 86) ∈ z_TB := z_inT (i := 708) (by decide +kernel) (by decide +kernel)
theorem zw_709 : Cond.selects (z_mY 86).cls (z_mY 86) (z_mY 86) ∈ z_TB := z_inT (i := 709) (by decide +kernel) (by decide +kernel)
theorem zcl_86 : z_cls[8]? = some ((z_mY 86).cls, TX8, 11) := rfl
theorem zw_1038 : Cond.methodLink (z_mY 154).cls 364 (z_mY 34) ∈ z_TB := z_inT (i := 1038) (by decide +kernel) (by decide +kernel)
theorem zc_30 : ∀ m, z_ce m 30 3 := fun _ => ⟨z_inT (i := 1046) (by decide +kernel) (by decide +kernel), by decide +kernel, by decide +kernel⟩
theorem zy_30 : plainName (z_mY 30).cls = true := by decide +kernel
theorem zw_1043 : Cond.methodLink (z_mY 155).cls 368 (z_mY 30) ∈ z_TB := z_inT (i := 1043) (by decide +kernel) (by decide +kernel)
theorem zw_1044 : Cond.instanceMethod (z_mY 30) ∈ z_TB := z_inT (i := 1044) (by decide +kernel) (by decide +kernel)
theorem zw_1045 : Cond.selects (z_mY 30).cls (z_mY 30) (z_mY 30) ∈ z_TB := z_inT (i := 1045) (by decide +kernel) (by decide +kernel)
theorem zcl_30 : z_cls[3]? = some ((z_mY 30).cls, TX3, 2) := rfl
theorem zc_161 : ∀ m, z_ce m 161 1 := fun _ => ⟨z_inT (i := 1058) (by decide +kernel) (by decide +kernel), by decide +kernel, by decide +kernel⟩
theorem zy_161 : plainName (z_mY 161).cls = true := by decide +kernel
theorem zw_1055 : Cond.methodLink (z_mY 157).cls 371 (z_mY 161) ∈ z_TB := z_inT (i := 1055) (by decide +kernel) (by decide +kernel)
theorem zw_1057 : Cond.instanceMethod (z_mY 161) ∈ z_TB := z_inT (i := 1057) (by decide +kernel) (by decide +kernel)
theorem zw_37 : Cond.selects (z_mY 161).cls (z_mY 161) (z_mY 161) ∈ z_TB := z_inT (i := 37) (by decide +kernel) (by decide +kernel)
theorem zcl_161 : z_cls[11]? = some ((z_mY 161).cls, TX11, 19) := rfl
theorem zw_1059 : Cond.constant (z_mY 157).cls 375 (-1000000) ∈ z_TB := z_inT (i := 1059) (by decide +kernel) (by decide +kernel)
theorem zc_115 : ∀ m, z_ce m 115 2 := fun _ => ⟨z_inT (i := 1063) (by decide +kernel) (by decide +kernel), by decide +kernel, by decide +kernel⟩
theorem zy_115 : plainName (z_mY 115).cls = true := by decide +kernel
theorem zw_1060 : Cond.methodLink (z_mY 157).cls 376 (z_mY 115) ∈ z_TB := z_inT (i := 1060) (by decide +kernel) (by decide +kernel)
theorem zw_1061 : Cond.instanceMethod (z_mY 115) ∈ z_TB := z_inT (i := 1061) (by decide +kernel) (by decide +kernel)
theorem zw_1062 : Cond.selects (z_mY 115).cls (z_mY 115) (z_mY 115) ∈ z_TB := z_inT (i := 1062) (by decide +kernel) (by decide +kernel)
theorem zcl_115 : z_cls[9]? = some ((z_mY 115).cls, TX9, 2) := rfl
theorem zc_160 : ∀ m, z_ce m 160 1 := fun _ => ⟨z_inT (i := 1072) (by decide +kernel) (by decide +kernel), by decide +kernel, by decide +kernel⟩
theorem zy_160 : plainName (z_mY 160).cls = true := by decide +kernel
theorem zw_1069 : Cond.methodLink (z_mY 158).cls 379 (z_mY 160) ∈ z_TB := z_inT (i := 1069) (by decide +kernel) (by decide +kernel)
theorem zw_1071 : Cond.instanceMethod (z_mY 160) ∈ z_TB := z_inT (i := 1071) (by decide +kernel) (by decide +kernel)
theorem zw_38 : Cond.selects (z_mY 160).cls (z_mY 160) (z_mY 160) ∈ z_TB := z_inT (i := 38) (by decide +kernel) (by decide +kernel)
theorem zcl_160 : z_cls[11]? = some ((z_mY 160).cls, TX11, 19) := rfl
theorem zw_183 : Cond.fieldLink (z_mY 158).cls 383 "SlabMap$Steps" "count" "I" ∈ z_TB := z_inT (i := 183) (by decide +kernel) (by decide +kernel)
theorem zc_5 : ∀ m, z_ce m 5 2 := fun _ => ⟨z_inT (i := 1076) (by decide +kernel) (by decide +kernel), by decide +kernel, by decide +kernel⟩
theorem zy_5 : plainName (z_mY 5).cls = true := by decide +kernel
theorem zw_1073 : Cond.methodLink (z_mY 159).cls 384 (z_mY 5) ∈ z_TB := z_inT (i := 1073) (by decide +kernel) (by decide +kernel)
theorem zw_1074 : Cond.instanceMethod (z_mY 5) ∈ z_TB := z_inT (i := 1074) (by decide +kernel) (by decide +kernel)
theorem zw_1075 : Cond.selects (z_mY 5).cls (z_mY 5) (z_mY 5) ∈ z_TB := z_inT (i := 1075) (by decide +kernel) (by decide +kernel)
theorem zcl_5 : z_cls[0]? = some ((z_mY 5).cls, TX0, 7) := rfl
theorem zc_97 : ∀ m, z_ce m 97 0 := fun _ => ⟨z_inT (i := 1089) (by decide +kernel) (by decide +kernel), by decide +kernel, by decide +kernel⟩
theorem zy_97 : plainName (z_mY 97).cls = true := by decide +kernel
theorem zw_1086 : Cond.methodLink (z_mY 162).cls 388 (z_mY 97) ∈ z_TB := z_inT (i := 1086) (by decide +kernel) (by decide +kernel)
theorem zw_1087 : Cond.instanceMethod (z_mY 97) ∈ z_TB := z_inT (i := 1087) (by decide +kernel) (by decide +kernel)
theorem zw_1088 : Cond.selects (z_mY 97).cls (z_mY 97) (z_mY 97) ∈ z_TB := z_inT (i := 1088) (by decide +kernel) (by decide +kernel)
theorem zcl_97 : z_cls[8]? = some ((z_mY 97).cls, TX8, 11) := rfl
theorem zc_106 : ∀ m, z_ce m 106 0 := fun _ => ⟨z_inT (i := 1093) (by decide +kernel) (by decide +kernel), by decide +kernel, by decide +kernel⟩
theorem zy_106 : plainName (z_mY 106).cls = true := by decide +kernel
theorem zw_1090 : Cond.methodLink (z_mY 162).cls 391 (z_mY 106) ∈ z_TB := z_inT (i := 1090) (by decide +kernel) (by decide +kernel)
theorem zw_1091 : Cond.instanceMethod (z_mY 106) ∈ z_TB := z_inT (i := 1091) (by decide +kernel) (by decide +kernel)
theorem zw_1092 : Cond.selects (z_mY 106).cls (z_mY 106) (z_mY 106) ∈ z_TB := z_inT (i := 1092) (by decide +kernel) (by decide +kernel)
theorem zcl_106 : z_cls[8]? = some ((z_mY 106).cls, TX8, 11) := rfl
theorem zc_101 : ∀ m, z_ce m 101 0 := fun _ => ⟨z_inT (i := 1098) (by decide +kernel) (by decide +kernel), by decide +kernel, by decide +kernel⟩
theorem zy_101 : plainName (z_mY 101).cls = true := by decide +kernel
theorem zw_1095 : Cond.methodLink (z_mY 162).cls 394 (z_mY 101) ∈ z_TB := z_inT (i := 1095) (by decide +kernel) (by decide +kernel)
theorem zw_1096 : Cond.instanceMethod (z_mY 101) ∈ z_TB := z_inT (i := 1096) (by decide +kernel) (by decide +kernel)
theorem zw_1097 : Cond.selects (z_mY 101).cls (z_mY 101) (z_mY 101) ∈ z_TB := z_inT (i := 1097) (by decide +kernel) (by decide +kernel)
theorem zcl_101 : z_cls[8]? = some ((z_mY 101).cls, TX8, 11) := rfl
theorem zc_107 : ∀ m, z_ce m 107 0 := fun _ => ⟨z_inT (i := 1104) (by decide +kernel) (by decide +kernel), by decide +kernel, by decide +kernel⟩
theorem zy_107 : plainName (z_mY 107).cls = true := by decide +kernel
theorem zw_1101 : Cond.methodLink (z_mY 162).cls 397 (z_mY 107) ∈ z_TB := z_inT (i := 1101) (by decide +kernel) (by decide +kernel)
theorem zw_1102 : Cond.instanceMethod (z_mY 107) ∈ z_TB := z_inT (i := 1102) (by decide +kernel) (by decide +kernel)
theorem zw_1103 : Cond.selects (z_mY 107).cls (z_mY 107) (z_mY 107) ∈ z_TB := z_inT (i := 1103) (by decide +kernel) (by decide +kernel)
theorem zcl_107 : z_cls[8]? = some ((z_mY 107).cls, TX8, 11) := rfl
theorem zc_47 : ∀ m, z_ce m 47 0 := fun _ => ⟨z_inT (i := 1108) (by decide +kernel) (by decide +kernel), by decide +kernel, by decide +kernel⟩
theorem zy_47 : plainName (z_mY 47).cls = true := by decide +kernel
theorem zw_1105 : Cond.methodLink (z_mY 162).cls 400 (z_mY 47) ∈ z_TB := z_inT (i := 1105) (by decide +kernel) (by decide +kernel)
theorem zw_1106 : Cond.instanceMethod (z_mY 47) ∈ z_TB := z_inT (i := 1106) (by decide +kernel) (by decide +kernel)
theorem zw_1107 : Cond.selects (z_mY 47).cls (z_mY 47) (z_mY 47) ∈ z_TB := z_inT (i := 1107) (by decide +kernel) (by decide +kernel)
theorem zcl_47 : z_cls[3]? = some ((z_mY 47).cls, TX3, 2) := rfl
theorem zc_48 : ∀ m, z_ce m 48 0 := fun _ => ⟨z_inT (i := 1112) (by decide +kernel) (by decide +kernel), by decide +kernel, by decide +kernel⟩
theorem zy_48 : plainName (z_mY 48).cls = true := by decide +kernel
theorem zw_1109 : Cond.methodLink (z_mY 162).cls 401 (z_mY 48) ∈ z_TB := z_inT (i := 1109) (by decide +kernel) (by decide +kernel)
theorem zw_1110 : Cond.instanceMethod (z_mY 48) ∈ z_TB := z_inT (i := 1110) (by decide +kernel) (by decide +kernel)
theorem zw_1111 : Cond.selects (z_mY 48).cls (z_mY 48) (z_mY 48) ∈ z_TB := z_inT (i := 1111) (by decide +kernel) (by decide +kernel)
theorem zcl_48 : z_cls[3]? = some ((z_mY 48).cls, TX3, 2) := rfl
theorem zc_61 : ∀ m, z_ce m 61 1 := fun _ => ⟨z_inT (i := 1120) (by decide +kernel) (by decide +kernel), by decide +kernel, by decide +kernel⟩
theorem zy_61 : plainName (z_mY 61).cls = true := by decide +kernel
theorem zw_1117 : Cond.methodLink (z_mY 163).cls 404 (z_mY 61) ∈ z_TB := z_inT (i := 1117) (by decide +kernel) (by decide +kernel)
theorem zw_1118 : Cond.instanceMethod (z_mY 61) ∈ z_TB := z_inT (i := 1118) (by decide +kernel) (by decide +kernel)
theorem zw_1119 : Cond.selects (z_mY 61).cls (z_mY 61) (z_mY 61) ∈ z_TB := z_inT (i := 1119) (by decide +kernel) (by decide +kernel)
theorem zcl_61 : z_cls[6]? = some ((z_mY 61).cls, TX6, 2) := rfl
theorem zw_1130 : Cond.methodLink (z_mY 165).cls 407 (z_mY 64) ∈ z_TB := z_inT (i := 1130) (by decide +kernel) (by decide +kernel)
theorem zw_767 : Cond.methodLink (z_mY 169).cls 409 (z_mY 57) ∈ z_TB := z_inT (i := 767) (by decide +kernel) (by decide +kernel)
theorem zw_1214 : Cond.methodLink (z_mY 173).cls 3 objectInit ∈ z_TB := z_inT (i := 1214) (by decide +kernel) (by decide +kernel)
theorem zw_1216 : Cond.fieldLink (z_mY 173).cls 9 "SlabMapModel" "tape" "[I" ∈ z_TB := z_inT (i := 1216) (by decide +kernel) (by decide +kernel)
theorem zw_1220 : Cond.fieldLink (z_mY 173).cls 13 "SlabMapModel" "readEdge" "[I" ∈ z_TB := z_inT (i := 1220) (by decide +kernel) (by decide +kernel)
theorem zw_1221 : Cond.fieldLink (z_mY 173).cls 16 "SlabMapModel" "readName" "[I" ∈ z_TB := z_inT (i := 1221) (by decide +kernel) (by decide +kernel)
theorem zw_1222 : Cond.fieldLink (z_mY 173).cls 19 "SlabMapModel" "readLong" "[I" ∈ z_TB := z_inT (i := 1222) (by decide +kernel) (by decide +kernel)
theorem zw_1224 : Cond.fieldLink (z_mY 173).cls 22 "SlabMapModel" "script" "[I" ∈ z_TB := z_inT (i := 1224) (by decide +kernel) (by decide +kernel)
theorem zw_1225 : Cond.fieldLink (z_mY 173).cls 25 "SlabMapModel" "scriptLong" "[I" ∈ z_TB := z_inT (i := 1225) (by decide +kernel) (by decide +kernel)
theorem zw_1227 : Cond.fieldLink (z_mY 173).cls 28 "SlabMapModel" "now" "[I" ∈ z_TB := z_inT (i := 1227) (by decide +kernel) (by decide +kernel)
theorem zw_1228 : Cond.fieldLink (z_mY 173).cls 31 "SlabMapModel" "look" "[I" ∈ z_TB := z_inT (i := 1228) (by decide +kernel) (by decide +kernel)
theorem zw_1229 : Cond.fieldLink (z_mY 173).cls 34 "SlabMapModel" "refused" "[I" ∈ z_TB := z_inT (i := 1229) (by decide +kernel) (by decide +kernel)
theorem zw_1230 : Cond.fieldLink (z_mY 173).cls 37 "SlabMapModel" "name" "[I" ∈ z_TB := z_inT (i := 1230) (by decide +kernel) (by decide +kernel)
theorem zw_1231 : Cond.fieldLink (z_mY 173).cls 40 "SlabMapModel" "nameLong" "[I" ∈ z_TB := z_inT (i := 1231) (by decide +kernel) (by decide +kernel)
theorem zw_1233 : Cond.fieldLink (z_mY 173).cls 43 "SlabMapModel" "from" "[I" ∈ z_TB := z_inT (i := 1233) (by decide +kernel) (by decide +kernel)
theorem zw_1234 : Cond.fieldLink (z_mY 173).cls 46 "SlabMapModel" "list" "[I" ∈ z_TB := z_inT (i := 1234) (by decide +kernel) (by decide +kernel)
theorem zw_1235 : Cond.fieldLink (z_mY 173).cls 49 "SlabMapModel" "listLong" "[I" ∈ z_TB := z_inT (i := 1235) (by decide +kernel) (by decide +kernel)
theorem zw_1238 : Cond.fieldLink (z_mY 173).cls 52 "SlabMapModel" "colour" "[I" ∈ z_TB := z_inT (i := 1238) (by decide +kernel) (by decide +kernel)
theorem zw_1239 : Cond.fieldLink (z_mY 173).cls 55 "SlabMapModel" "besides" "[I" ∈ z_TB := z_inT (i := 1239) (by decide +kernel) (by decide +kernel)
theorem zw_1240 : Cond.fieldLink (z_mY 173).cls 58 "SlabMapModel" "endEdge" "[I" ∈ z_TB := z_inT (i := 1240) (by decide +kernel) (by decide +kernel)
theorem zw_1241 : Cond.fieldLink (z_mY 173).cls 61 "SlabMapModel" "endAbove" "[I" ∈ z_TB := z_inT (i := 1241) (by decide +kernel) (by decide +kernel)
theorem zw_1242 : Cond.fieldLink (z_mY 173).cls 64 "SlabMapModel" "endMany" "[I" ∈ z_TB := z_inT (i := 1242) (by decide +kernel) (by decide +kernel)
theorem zw_1243 : Cond.fieldLink (z_mY 173).cls 67 "SlabMapModel" "endThen" "[I" ∈ z_TB := z_inT (i := 1243) (by decide +kernel) (by decide +kernel)
theorem zw_1244 : Cond.fieldLink (z_mY 173).cls 70 "SlabMapModel" "kept" "[I" ∈ z_TB := z_inT (i := 1244) (by decide +kernel) (by decide +kernel)
theorem zw_1247 : Cond.fieldLink (z_mY 173).cls 73 "SlabMapModel" "regionThen" "[I" ∈ z_TB := z_inT (i := 1247) (by decide +kernel) (by decide +kernel)
theorem zw_1248 : Cond.fieldLink (z_mY 173).cls 76 "SlabMapModel" "listThen" "[I" ∈ z_TB := z_inT (i := 1248) (by decide +kernel) (by decide +kernel)
theorem zw_1249 : Cond.fieldLink (z_mY 173).cls 79 "SlabMapModel" "longThen" "[I" ∈ z_TB := z_inT (i := 1249) (by decide +kernel) (by decide +kernel)
theorem zw_1251 : Cond.fieldLink (z_mY 173).cls 82 "SlabMapModel" "aside" "[I" ∈ z_TB := z_inT (i := 1251) (by decide +kernel) (by decide +kernel)
theorem zw_1252 : Cond.fieldLink (z_mY 173).cls 85 "SlabMapModel" "image" "[I" ∈ z_TB := z_inT (i := 1252) (by decide +kernel) (by decide +kernel)
theorem zc_174 : ∀ m, z_ce m 174 6 := fun _ => ⟨z_inT (i := 1339) (by decide +kernel) (by decide +kernel), by decide +kernel, by decide +kernel⟩
theorem zy_174 : plainName (z_mY 174).cls = true := by decide +kernel
theorem zw_129 : Cond.initialized "SlabMapModel" ∈ z_TB := z_inT (i := 129) (by decide +kernel) (by decide +kernel)
theorem zw_1337 : Cond.methodLink (z_mY 175).cls 92 (z_mY 174) ∈ z_TB := z_inT (i := 1337) (by decide +kernel) (by decide +kernel)
theorem zw_1338 : Cond.static (z_mY 174) ∈ z_TB := z_inT (i := 1338) (by decide +kernel) (by decide +kernel)
theorem zw_1217 : Cond.fieldLink (z_mY 175).cls 96 "SlabMapModel" "taped" "I" ∈ z_TB := z_inT (i := 1217) (by decide +kernel) (by decide +kernel)
theorem zc_170 : ∀ m, z_ce m 170 3 := fun _ => ⟨z_inT (i := 1346) (by decide +kernel) (by decide +kernel), by decide +kernel, by decide +kernel⟩
theorem zy_170 : plainName (z_mY 170).cls = true := by decide +kernel
theorem zw_1344 : Cond.methodLink (z_mY 176).cls 99 (z_mY 170) ∈ z_TB := z_inT (i := 1344) (by decide +kernel) (by decide +kernel)
theorem zw_1345 : Cond.static (z_mY 170) ∈ z_TB := z_inT (i := 1345) (by decide +kernel) (by decide +kernel)
theorem zw_1218 : Cond.fieldLink (z_mY 177).cls 103 "SlabMapModel" "at" "I" ∈ z_TB := z_inT (i := 1218) (by decide +kernel) (by decide +kernel)
theorem zc_177 : ∀ m, z_ce m 177 0 := fun _ => ⟨z_inT (i := 1366) (by decide +kernel) (by decide +kernel), by decide +kernel, by decide +kernel⟩
theorem zy_177 : plainName (z_mY 177).cls = true := by decide +kernel
theorem zw_1363 : Cond.methodLink (z_mY 178).cls 106 (z_mY 177) ∈ z_TB := z_inT (i := 1363) (by decide +kernel) (by decide +kernel)
theorem zw_1365 : Cond.instanceMethod (z_mY 177) ∈ z_TB := z_inT (i := 1365) (by decide +kernel) (by decide +kernel)
theorem zw_43 : Cond.selects (z_mY 177).cls (z_mY 177) (z_mY 177) ∈ z_TB := z_inT (i := 43) (by decide +kernel) (by decide +kernel)
theorem zcl_177 : z_cls[12]? = some ((z_mY 177).cls, TX12, 39) := rfl
theorem zw_1219 : Cond.fieldLink (z_mY 179).cls 110 "SlabMapModel" "wrong" "I" ∈ z_TB := z_inT (i := 1219) (by decide +kernel) (by decide +kernel)
theorem zc_180 : ∀ m, z_ce m 180 1 := fun _ => ⟨z_inT (i := 1389) (by decide +kernel) (by decide +kernel), by decide +kernel, by decide +kernel⟩
theorem zy_180 : plainName (z_mY 180).cls = true := by decide +kernel
theorem zw_1387 : Cond.methodLink (z_mY 182).cls 113 (z_mY 180) ∈ z_TB := z_inT (i := 1387) (by decide +kernel) (by decide +kernel)
theorem zw_1388 : Cond.static (z_mY 180) ∈ z_TB := z_inT (i := 1388) (by decide +kernel) (by decide +kernel)
theorem zc_179 : ∀ m, z_ce m 179 0 := fun _ => ⟨z_inT (i := 1378) (by decide +kernel) (by decide +kernel), by decide +kernel, by decide +kernel⟩
theorem zy_179 : plainName (z_mY 179).cls = true := by decide +kernel
theorem zw_1375 : Cond.methodLink (z_mY 182).cls 117 (z_mY 179) ∈ z_TB := z_inT (i := 1375) (by decide +kernel) (by decide +kernel)
theorem zw_1377 : Cond.instanceMethod (z_mY 179) ∈ z_TB := z_inT (i := 1377) (by decide +kernel) (by decide +kernel)
theorem zw_46 : Cond.selects (z_mY 179).cls (z_mY 179) (z_mY 179) ∈ z_TB := z_inT (i := 46) (by decide +kernel) (by decide +kernel)
theorem zcl_179 : z_cls[12]? = some ((z_mY 179).cls, TX12, 39) := rfl
theorem zc_178 : ∀ m, z_ce m 178 0 := fun _ => ⟨z_inT (i := 1362) (by decide +kernel) (by decide +kernel), by decide +kernel, by decide +kernel⟩
theorem zy_178 : plainName (z_mY 178).cls = true := by decide +kernel
theorem zw_1359 : Cond.methodLink (z_mY 183).cls 120 (z_mY 178) ∈ z_TB := z_inT (i := 1359) (by decide +kernel) (by decide +kernel)
theorem zw_1361 : Cond.instanceMethod (z_mY 178) ∈ z_TB := z_inT (i := 1361) (by decide +kernel) (by decide +kernel)
theorem zw_42 : Cond.selects (z_mY 178).cls (z_mY 178) (z_mY 178) ∈ z_TB := z_inT (i := 42) (by decide +kernel) (by decide +kernel)
theorem zcl_178 : z_cls[12]? = some ((z_mY 178).cls, TX12, 39) := rfl
theorem zc_182 : ∀ m, z_ce m 182 2 := fun _ => ⟨z_inT (i := 1386) (by decide +kernel) (by decide +kernel), by decide +kernel, by decide +kernel⟩
theorem zy_182 : plainName (z_mY 182).cls = true := by decide +kernel
theorem zw_1383 : Cond.methodLink (z_mY 183).cls 123 (z_mY 182) ∈ z_TB := z_inT (i := 1383) (by decide +kernel) (by decide +kernel)
theorem zw_1385 : Cond.instanceMethod (z_mY 182) ∈ z_TB := z_inT (i := 1385) (by decide +kernel) (by decide +kernel)
theorem zw_48 : Cond.selects (z_mY 182).cls (z_mY 182) (z_mY 182) ∈ z_TB := z_inT (i := 48) (by decide +kernel) (by decide +kernel)
theorem zcl_182 : z_cls[12]? = some ((z_mY 182).cls, TX12, 39) := rfl
theorem zc_185 : ∀ m, z_ce m 185 0 := fun _ => ⟨z_inT (i := 1374) (by decide +kernel) (by decide +kernel), by decide +kernel, by decide +kernel⟩
theorem zy_185 : plainName (z_mY 185).cls = true := by decide +kernel
theorem zw_1371 : Cond.methodLink (z_mY 186).cls 127 (z_mY 185) ∈ z_TB := z_inT (i := 1371) (by decide +kernel) (by decide +kernel)
theorem zw_1373 : Cond.instanceMethod (z_mY 185) ∈ z_TB := z_inT (i := 1373) (by decide +kernel) (by decide +kernel)
theorem zw_45 : Cond.selects (z_mY 185).cls (z_mY 185) (z_mY 185) ∈ z_TB := z_inT (i := 45) (by decide +kernel) (by decide +kernel)
theorem zcl_185 : z_cls[12]? = some ((z_mY 185).cls, TX12, 39) := rfl
theorem zc_183 : ∀ m, z_ce m 183 2 := fun _ => ⟨z_inT (i := 1382) (by decide +kernel) (by decide +kernel), by decide +kernel, by decide +kernel⟩
theorem zy_183 : plainName (z_mY 183).cls = true := by decide +kernel
theorem zw_1379 : Cond.methodLink (z_mY 186).cls 130 (z_mY 183) ∈ z_TB := z_inT (i := 1379) (by decide +kernel) (by decide +kernel)
theorem zw_1381 : Cond.instanceMethod (z_mY 183) ∈ z_TB := z_inT (i := 1381) (by decide +kernel) (by decide +kernel)
theorem zw_47 : Cond.selects (z_mY 183).cls (z_mY 183) (z_mY 183) ∈ z_TB := z_inT (i := 47) (by decide +kernel) (by decide +kernel)
theorem zcl_183 : z_cls[12]? = some ((z_mY 183).cls, TX12, 39) := rfl
theorem zc_181 : ∀ m, z_ce m 181 1 := fun _ => ⟨z_inT (i := 1396) (by decide +kernel) (by decide +kernel), by decide +kernel, by decide +kernel⟩
theorem zy_181 : plainName (z_mY 181).cls = true := by decide +kernel
theorem zw_1394 : Cond.methodLink (z_mY 187).cls 133 (z_mY 181) ∈ z_TB := z_inT (i := 1394) (by decide +kernel) (by decide +kernel)
theorem zw_1395 : Cond.static (z_mY 181) ∈ z_TB := z_inT (i := 1395) (by decide +kernel) (by decide +kernel)
theorem zw_1223 : Cond.fieldLink (z_mY 188).cls 136 "SlabMapModel" "readMany" "I" ∈ z_TB := z_inT (i := 1223) (by decide +kernel) (by decide +kernel)
theorem zc_186 : ∀ m, z_ce m 186 2 := fun _ => ⟨z_inT (i := 1370) (by decide +kernel) (by decide +kernel), by decide +kernel, by decide +kernel⟩
theorem zy_186 : plainName (z_mY 186).cls = true := by decide +kernel
theorem zw_1367 : Cond.methodLink (z_mY 188).cls 139 (z_mY 186) ∈ z_TB := z_inT (i := 1367) (by decide +kernel) (by decide +kernel)
theorem zw_1369 : Cond.instanceMethod (z_mY 186) ∈ z_TB := z_inT (i := 1369) (by decide +kernel) (by decide +kernel)
theorem zw_44 : Cond.selects (z_mY 186).cls (z_mY 186) (z_mY 186) ∈ z_TB := z_inT (i := 44) (by decide +kernel) (by decide +kernel)
theorem zcl_186 : z_cls[12]? = some ((z_mY 186).cls, TX12, 39) := rfl
theorem zc_187 : ∀ m, z_ce m 187 0 := fun _ => ⟨z_inT (i := 1393) (by decide +kernel) (by decide +kernel), by decide +kernel, by decide +kernel⟩
theorem zy_187 : plainName (z_mY 187).cls = true := by decide +kernel
theorem zw_1390 : Cond.methodLink (z_mY 188).cls 143 (z_mY 187) ∈ z_TB := z_inT (i := 1390) (by decide +kernel) (by decide +kernel)
theorem zw_1392 : Cond.instanceMethod (z_mY 187) ∈ z_TB := z_inT (i := 1392) (by decide +kernel) (by decide +kernel)
theorem zw_49 : Cond.selects (z_mY 187).cls (z_mY 187) (z_mY 187) ∈ z_TB := z_inT (i := 49) (by decide +kernel) (by decide +kernel)
theorem zcl_187 : z_cls[12]? = some ((z_mY 187).cls, TX12, 39) := rfl
theorem zc_188 : ∀ m, z_ce m 188 0 := fun _ => ⟨z_inT (i := 1358) (by decide +kernel) (by decide +kernel), by decide +kernel, by decide +kernel⟩
theorem zy_188 : plainName (z_mY 188).cls = true := by decide +kernel
theorem zw_1355 : Cond.methodLink (z_mY 189).cls 146 (z_mY 188) ∈ z_TB := z_inT (i := 1355) (by decide +kernel) (by decide +kernel)
theorem zw_1357 : Cond.instanceMethod (z_mY 188) ∈ z_TB := z_inT (i := 1357) (by decide +kernel) (by decide +kernel)
theorem zw_41 : Cond.selects (z_mY 188).cls (z_mY 188) (z_mY 188) ∈ z_TB := z_inT (i := 41) (by decide +kernel) (by decide +kernel)
theorem zcl_188 : z_cls[12]? = some ((z_mY 188).cls, TX12, 39) := rfl
theorem zw_1405 : Cond.constant (z_mY 190).cls 149 (-1000000) ∈ z_TB := z_inT (i := 1405) (by decide +kernel) (by decide +kernel)
theorem zc_184 : ∀ m, z_ce m 184 1 := fun _ => ⟨z_inT (i := 1409) (by decide +kernel) (by decide +kernel), by decide +kernel, by decide +kernel⟩
theorem zy_184 : plainName (z_mY 184).cls = true := by decide +kernel
theorem zw_1406 : Cond.methodLink (z_mY 190).cls 150 (z_mY 184) ∈ z_TB := z_inT (i := 1406) (by decide +kernel) (by decide +kernel)
theorem zw_1408 : Cond.instanceMethod (z_mY 184) ∈ z_TB := z_inT (i := 1408) (by decide +kernel) (by decide +kernel)
theorem zw_52 : Cond.selects (z_mY 184).cls (z_mY 184) (z_mY 184) ∈ z_TB := z_inT (i := 52) (by decide +kernel) (by decide +kernel)
theorem zcl_184 : z_cls[12]? = some ((z_mY 184).cls, TX12, 39) := rfl
theorem zc_190 : ∀ m, z_ce m 190 1 := fun _ => ⟨z_inT (i := 1404) (by decide +kernel) (by decide +kernel), by decide +kernel, by decide +kernel⟩
theorem zy_190 : plainName (z_mY 190).cls = true := by decide +kernel
theorem zw_1401 : Cond.methodLink (z_mY 191).cls 154 (z_mY 190) ∈ z_TB := z_inT (i := 1401) (by decide +kernel) (by decide +kernel)
theorem zw_1403 : Cond.instanceMethod (z_mY 190) ∈ z_TB := z_inT (i := 1403) (by decide +kernel) (by decide +kernel)
theorem zw_51 : Cond.selects (z_mY 190).cls (z_mY 190) (z_mY 190) ∈ z_TB := z_inT (i := 51) (by decide +kernel) (by decide +kernel)
theorem zcl_190 : z_cls[12]? = some ((z_mY 190).cls, TX12, 39) := rfl
theorem zc_189 : ∀ m, z_ce m 189 0 := fun _ => ⟨z_inT (i := 1354) (by decide +kernel) (by decide +kernel), by decide +kernel, by decide +kernel⟩
theorem zy_189 : plainName (z_mY 189).cls = true := by decide +kernel
theorem zw_1351 : Cond.methodLink (z_mY 192).cls 158 (z_mY 189) ∈ z_TB := z_inT (i := 1351) (by decide +kernel) (by decide +kernel)
theorem zw_1353 : Cond.instanceMethod (z_mY 189) ∈ z_TB := z_inT (i := 1353) (by decide +kernel) (by decide +kernel)
theorem zw_40 : Cond.selects (z_mY 189).cls (z_mY 189) (z_mY 189) ∈ z_TB := z_inT (i := 40) (by decide +kernel) (by decide +kernel)
theorem zcl_189 : z_cls[12]? = some ((z_mY 189).cls, TX12, 39) := rfl
theorem zc_191 : ∀ m, z_ce m 191 1 := fun _ => ⟨z_inT (i := 1400) (by decide +kernel) (by decide +kernel), by decide +kernel, by decide +kernel⟩
theorem zy_191 : plainName (z_mY 191).cls = true := by decide +kernel
theorem zw_1397 : Cond.methodLink (z_mY 192).cls 161 (z_mY 191) ∈ z_TB := z_inT (i := 1397) (by decide +kernel) (by decide +kernel)
theorem zw_1399 : Cond.instanceMethod (z_mY 191) ∈ z_TB := z_inT (i := 1399) (by decide +kernel) (by decide +kernel)
theorem zw_50 : Cond.selects (z_mY 191).cls (z_mY 191) (z_mY 191) ∈ z_TB := z_inT (i := 50) (by decide +kernel) (by decide +kernel)
theorem zcl_191 : z_cls[12]? = some ((z_mY 191).cls, TX12, 39) := rfl
theorem zw_1232 : Cond.fieldLink (z_mY 193).cls 164 "SlabMapModel" "isMap" "Z" ∈ z_TB := z_inT (i := 1232) (by decide +kernel) (by decide +kernel)
theorem zc_198 : ∀ m, z_ce m 198 1 := fun _ => ⟨z_inT (i := 1454) (by decide +kernel) (by decide +kernel), by decide +kernel, by decide +kernel⟩
theorem zy_198 : plainName (z_mY 198).cls = true := by decide +kernel
theorem zw_1452 : Cond.methodLink (z_mY 199).cls 168 (z_mY 198) ∈ z_TB := z_inT (i := 1452) (by decide +kernel) (by decide +kernel)
theorem zw_1453 : Cond.static (z_mY 198) ∈ z_TB := z_inT (i := 1453) (by decide +kernel) (by decide +kernel)
theorem zw_1458 : Cond.methodLink (z_mY 200).cls 171 (z_mY 297) ∈ z_TB := z_inT (i := 1458) (by decide +kernel) (by decide +kernel)
theorem zw_1459 : Cond.methodLink (z_mY 200).cls 176 (z_mY 296) ∈ z_TB := z_inT (i := 1459) (by decide +kernel) (by decide +kernel)
theorem zc_196 : ∀ m, z_ce m 196 2 := fun _ => ⟨z_inT (i := 1448) (by decide +kernel) (by decide +kernel), by decide +kernel, by decide +kernel⟩
theorem zy_196 : plainName (z_mY 196).cls = true := by decide +kernel
theorem zw_1445 : Cond.methodLink (z_mY 201).cls 179 (z_mY 196) ∈ z_TB := z_inT (i := 1445) (by decide +kernel) (by decide +kernel)
theorem zw_1447 : Cond.instanceMethod (z_mY 196) ∈ z_TB := z_inT (i := 1447) (by decide +kernel) (by decide +kernel)
theorem zw_60 : Cond.selects (z_mY 196).cls (z_mY 196) (z_mY 196) ∈ z_TB := z_inT (i := 60) (by decide +kernel) (by decide +kernel)
theorem zcl_196 : z_cls[12]? = some ((z_mY 196).cls, TX12, 39) := rfl
theorem zc_199 : ∀ m, z_ce m 199 6 := fun _ => ⟨z_inT (i := 1451) (by decide +kernel) (by decide +kernel), by decide +kernel, by decide +kernel⟩
theorem zy_199 : plainName (z_mY 199).cls = true := by decide +kernel
theorem zw_1449 : Cond.methodLink (z_mY 201).cls 182 (z_mY 199) ∈ z_TB := z_inT (i := 1449) (by decide +kernel) (by decide +kernel)
theorem zw_1450 : Cond.static (z_mY 199) ∈ z_TB := z_inT (i := 1450) (by decide +kernel) (by decide +kernel)
theorem zc_200 : ∀ m, z_ce m 200 4 := fun _ => ⟨z_inT (i := 1457) (by decide +kernel) (by decide +kernel), by decide +kernel, by decide +kernel⟩
theorem zy_200 : plainName (z_mY 200).cls = true := by decide +kernel
theorem zw_1455 : Cond.methodLink (z_mY 201).cls 185 (z_mY 200) ∈ z_TB := z_inT (i := 1455) (by decide +kernel) (by decide +kernel)
theorem zw_1456 : Cond.static (z_mY 200) ∈ z_TB := z_inT (i := 1456) (by decide +kernel) (by decide +kernel)
theorem zc_195 : ∀ m, z_ce m 195 1 := fun _ => ⟨z_inT (i := 1440) (by decide +kernel) (by decide +kernel), by decide +kernel, by decide +kernel⟩
theorem zy_195 : plainName (z_mY 195).cls = true := by decide +kernel
theorem zw_1437 : Cond.methodLink (z_mY 202).cls 189 (z_mY 195) ∈ z_TB := z_inT (i := 1437) (by decide +kernel) (by decide +kernel)
theorem zw_1439 : Cond.instanceMethod (z_mY 195) ∈ z_TB := z_inT (i := 1439) (by decide +kernel) (by decide +kernel)
theorem zw_58 : Cond.selects (z_mY 195).cls (z_mY 195) (z_mY 195) ∈ z_TB := z_inT (i := 58) (by decide +kernel) (by decide +kernel)
theorem zcl_195 : z_cls[12]? = some ((z_mY 195).cls, TX12, 39) := rfl
theorem zc_201 : ∀ m, z_ce m 201 5 := fun _ => ⟨z_inT (i := 1444) (by decide +kernel) (by decide +kernel), by decide +kernel, by decide +kernel⟩
theorem zy_201 : plainName (z_mY 201).cls = true := by decide +kernel
theorem zw_1441 : Cond.methodLink (z_mY 202).cls 192 (z_mY 201) ∈ z_TB := z_inT (i := 1441) (by decide +kernel) (by decide +kernel)
theorem zw_1443 : Cond.instanceMethod (z_mY 201) ∈ z_TB := z_inT (i := 1443) (by decide +kernel) (by decide +kernel)
theorem zw_59 : Cond.selects (z_mY 201).cls (z_mY 201) (z_mY 201) ∈ z_TB := z_inT (i := 59) (by decide +kernel) (by decide +kernel)
theorem zcl_201 : z_cls[12]? = some ((z_mY 201).cls, TX12, 39) := rfl
theorem zw_1236 : Cond.fieldLink (z_mY 203).cls 196 "SlabMapModel" "ends" "I" ∈ z_TB := z_inT (i := 1236) (by decide +kernel) (by decide +kernel)
theorem zc_204 : ∀ m, z_ce m 204 3 := fun _ => ⟨z_inT (i := 1535) (by decide +kernel) (by decide +kernel), by decide +kernel, by decide +kernel⟩
theorem zy_204 : plainName (z_mY 204).cls = true := by decide +kernel
theorem zw_1532 : Cond.methodLink (z_mY 205).cls 199 (z_mY 204) ∈ z_TB := z_inT (i := 1532) (by decide +kernel) (by decide +kernel)
theorem zw_1534 : Cond.instanceMethod (z_mY 204) ∈ z_TB := z_inT (i := 1534) (by decide +kernel) (by decide +kernel)
theorem zw_78 : Cond.selects (z_mY 204).cls (z_mY 204) (z_mY 204) ∈ z_TB := z_inT (i := 78) (by decide +kernel) (by decide +kernel)
theorem zcl_204 : z_cls[12]? = some ((z_mY 204).cls, TX12, 39) := rfl
theorem zc_203 : ∀ m, z_ce m 203 1 := fun _ => ⟨z_inT (i := 1527) (by decide +kernel) (by decide +kernel), by decide +kernel, by decide +kernel⟩
theorem zy_203 : plainName (z_mY 203).cls = true := by decide +kernel
theorem zw_1524 : Cond.methodLink (z_mY 206).cls 202 (z_mY 203) ∈ z_TB := z_inT (i := 1524) (by decide +kernel) (by decide +kernel)
theorem zw_1526 : Cond.instanceMethod (z_mY 203) ∈ z_TB := z_inT (i := 1526) (by decide +kernel) (by decide +kernel)
theorem zw_76 : Cond.selects (z_mY 203).cls (z_mY 203) (z_mY 203) ∈ z_TB := z_inT (i := 76) (by decide +kernel) (by decide +kernel)
theorem zcl_203 : z_cls[12]? = some ((z_mY 203).cls, TX12, 39) := rfl
theorem zw_1237 : Cond.fieldLink (z_mY 206).cls 205 "SlabMapModel" "slabs" "I" ∈ z_TB := z_inT (i := 1237) (by decide +kernel) (by decide +kernel)
theorem zc_205 : ∀ m, z_ce m 205 2 := fun _ => ⟨z_inT (i := 1531) (by decide +kernel) (by decide +kernel), by decide +kernel, by decide +kernel⟩
theorem zy_205 : plainName (z_mY 205).cls = true := by decide +kernel
theorem zw_1528 : Cond.methodLink (z_mY 206).cls 208 (z_mY 205) ∈ z_TB := z_inT (i := 1528) (by decide +kernel) (by decide +kernel)
theorem zw_1530 : Cond.instanceMethod (z_mY 205) ∈ z_TB := z_inT (i := 1530) (by decide +kernel) (by decide +kernel)
theorem zw_77 : Cond.selects (z_mY 205).cls (z_mY 205) (z_mY 205) ∈ z_TB := z_inT (i := 77) (by decide +kernel) (by decide +kernel)
theorem zcl_205 : z_cls[12]? = some ((z_mY 205).cls, TX12, 39) := rfl
theorem zc_194 : ∀ m, z_ce m 194 2 := fun _ => ⟨z_inT (i := 1432) (by decide +kernel) (by decide +kernel), by decide +kernel, by decide +kernel⟩
theorem zy_194 : plainName (z_mY 194).cls = true := by decide +kernel
theorem zw_1429 : Cond.methodLink (z_mY 207).cls 212 (z_mY 194) ∈ z_TB := z_inT (i := 1429) (by decide +kernel) (by decide +kernel)
theorem zw_1431 : Cond.instanceMethod (z_mY 194) ∈ z_TB := z_inT (i := 1431) (by decide +kernel) (by decide +kernel)
theorem zw_56 : Cond.selects (z_mY 194).cls (z_mY 194) (z_mY 194) ∈ z_TB := z_inT (i := 56) (by decide +kernel) (by decide +kernel)
theorem zcl_194 : z_cls[12]? = some ((z_mY 194).cls, TX12, 39) := rfl
theorem zc_206 : ∀ m, z_ce m 206 0 := fun _ => ⟨z_inT (i := 1523) (by decide +kernel) (by decide +kernel), by decide +kernel, by decide +kernel⟩
theorem zy_206 : plainName (z_mY 206).cls = true := by decide +kernel
theorem zw_1520 : Cond.methodLink (z_mY 207).cls 215 (z_mY 206) ∈ z_TB := z_inT (i := 1520) (by decide +kernel) (by decide +kernel)
theorem zw_1522 : Cond.instanceMethod (z_mY 206) ∈ z_TB := z_inT (i := 1522) (by decide +kernel) (by decide +kernel)
theorem zw_75 : Cond.selects (z_mY 206).cls (z_mY 206) (z_mY 206) ∈ z_TB := z_inT (i := 75) (by decide +kernel) (by decide +kernel)
theorem zcl_206 : z_cls[12]? = some ((z_mY 206).cls, TX12, 39) := rfl
theorem zc_208 : ∀ m, z_ce m 208 1 := fun _ => ⟨z_inT (i := 1604) (by decide +kernel) (by decide +kernel), by decide +kernel, by decide +kernel⟩
theorem zy_208 : plainName (z_mY 208).cls = true := by decide +kernel
theorem zw_1601 : Cond.methodLink (z_mY 210).cls 218 (z_mY 208) ∈ z_TB := z_inT (i := 1601) (by decide +kernel) (by decide +kernel)
theorem zw_1603 : Cond.instanceMethod (z_mY 208) ∈ z_TB := z_inT (i := 1603) (by decide +kernel) (by decide +kernel)
theorem zw_85 : Cond.selects (z_mY 208).cls (z_mY 208) (z_mY 208) ∈ z_TB := z_inT (i := 85) (by decide +kernel) (by decide +kernel)
theorem zcl_208 : z_cls[12]? = some ((z_mY 208).cls, TX12, 39) := rfl
theorem zc_209 : ∀ m, z_ce m 209 3 := fun _ => ⟨z_inT (i := 1632) (by decide +kernel) (by decide +kernel), by decide +kernel, by decide +kernel⟩
theorem zy_209 : plainName (z_mY 209).cls = true := by decide +kernel
theorem zw_1629 : Cond.methodLink (z_mY 210).cls 221 (z_mY 209) ∈ z_TB := z_inT (i := 1629) (by decide +kernel) (by decide +kernel)
theorem zw_1631 : Cond.instanceMethod (z_mY 209) ∈ z_TB := z_inT (i := 1631) (by decide +kernel) (by decide +kernel)
theorem zw_89 : Cond.selects (z_mY 209).cls (z_mY 209) (z_mY 209) ∈ z_TB := z_inT (i := 89) (by decide +kernel) (by decide +kernel)
theorem zcl_209 : z_cls[12]? = some ((z_mY 209).cls, TX12, 39) := rfl
theorem zc_210 : ∀ m, z_ce m 210 2 := fun _ => ⟨z_inT (i := 1628) (by decide +kernel) (by decide +kernel), by decide +kernel, by decide +kernel⟩
theorem zy_210 : plainName (z_mY 210).cls = true := by decide +kernel
theorem zw_1625 : Cond.methodLink (z_mY 211).cls 225 (z_mY 210) ∈ z_TB := z_inT (i := 1625) (by decide +kernel) (by decide +kernel)
theorem zw_1627 : Cond.instanceMethod (z_mY 210) ∈ z_TB := z_inT (i := 1627) (by decide +kernel) (by decide +kernel)
theorem zw_88 : Cond.selects (z_mY 210).cls (z_mY 210) (z_mY 210) ∈ z_TB := z_inT (i := 88) (by decide +kernel) (by decide +kernel)
theorem zcl_210 : z_cls[12]? = some ((z_mY 210).cls, TX12, 39) := rfl
theorem zc_211 : ∀ m, z_ce m 211 2 := fun _ => ⟨z_inT (i := 1624) (by decide +kernel) (by decide +kernel), by decide +kernel, by decide +kernel⟩
theorem zy_211 : plainName (z_mY 211).cls = true := by decide +kernel
theorem zw_1621 : Cond.methodLink (z_mY 212).cls 228 (z_mY 211) ∈ z_TB := z_inT (i := 1621) (by decide +kernel) (by decide +kernel)
theorem zw_1623 : Cond.instanceMethod (z_mY 211) ∈ z_TB := z_inT (i := 1623) (by decide +kernel) (by decide +kernel)
theorem zw_87 : Cond.selects (z_mY 211).cls (z_mY 211) (z_mY 211) ∈ z_TB := z_inT (i := 87) (by decide +kernel) (by decide +kernel)
theorem zcl_211 : z_cls[12]? = some ((z_mY 211).cls, TX12, 39) := rfl
theorem zc_197 : ∀ m, z_ce m 197 1 := fun _ => ⟨z_inT (i := 1640) (by decide +kernel) (by decide +kernel), by decide +kernel, by decide +kernel⟩
theorem zy_197 : plainName (z_mY 197).cls = true := by decide +kernel
theorem zw_1637 : Cond.methodLink (z_mY 212).cls 231 (z_mY 197) ∈ z_TB := z_inT (i := 1637) (by decide +kernel) (by decide +kernel)
theorem zw_1639 : Cond.instanceMethod (z_mY 197) ∈ z_TB := z_inT (i := 1639) (by decide +kernel) (by decide +kernel)
theorem zw_91 : Cond.selects (z_mY 197).cls (z_mY 197) (z_mY 197) ∈ z_TB := z_inT (i := 91) (by decide +kernel) (by decide +kernel)
theorem zcl_197 : z_cls[12]? = some ((z_mY 197).cls, TX12, 39) := rfl
theorem zc_212 : ∀ m, z_ce m 212 2 := fun _ => ⟨z_inT (i := 1636) (by decide +kernel) (by decide +kernel), by decide +kernel, by decide +kernel⟩
theorem zy_212 : plainName (z_mY 212).cls = true := by decide +kernel
theorem zw_1633 : Cond.methodLink (z_mY 213).cls 234 (z_mY 212) ∈ z_TB := z_inT (i := 1633) (by decide +kernel) (by decide +kernel)
theorem zw_1635 : Cond.instanceMethod (z_mY 212) ∈ z_TB := z_inT (i := 1635) (by decide +kernel) (by decide +kernel)
theorem zw_90 : Cond.selects (z_mY 212).cls (z_mY 212) (z_mY 212) ∈ z_TB := z_inT (i := 90) (by decide +kernel) (by decide +kernel)
theorem zcl_212 : z_cls[12]? = some ((z_mY 212).cls, TX12, 39) := rfl
theorem zc_214 : ∀ m, z_ce m 214 2 := fun _ => ⟨z_inT (i := 1668) (by decide +kernel) (by decide +kernel), by decide +kernel, by decide +kernel⟩
theorem zy_214 : plainName (z_mY 214).cls = true := by decide +kernel
theorem zw_1665 : Cond.methodLink (z_mY 215).cls 237 (z_mY 214) ∈ z_TB := z_inT (i := 1665) (by decide +kernel) (by decide +kernel)
theorem zw_1667 : Cond.instanceMethod (z_mY 214) ∈ z_TB := z_inT (i := 1667) (by decide +kernel) (by decide +kernel)
theorem zw_94 : Cond.selects (z_mY 214).cls (z_mY 214) (z_mY 214) ∈ z_TB := z_inT (i := 94) (by decide +kernel) (by decide +kernel)
theorem zcl_214 : z_cls[12]? = some ((z_mY 214).cls, TX12, 39) := rfl
theorem zc_171 : ∀ m, z_ce m 171 2 := fun _ => ⟨z_inT (i := 1683) (by decide +kernel) (by decide +kernel), by decide +kernel, by decide +kernel⟩
theorem zy_171 : plainName (z_mY 171).cls = true := by decide +kernel
theorem zw_1681 : Cond.methodLink (z_mY 216).cls 240 (z_mY 171) ∈ z_TB := z_inT (i := 1681) (by decide +kernel) (by decide +kernel)
theorem zw_1682 : Cond.static (z_mY 171) ∈ z_TB := z_inT (i := 1682) (by decide +kernel) (by decide +kernel)
theorem zc_216 : ∀ m, z_ce m 216 2 := fun _ => ⟨z_inT (i := 1680) (by decide +kernel) (by decide +kernel), by decide +kernel, by decide +kernel⟩
theorem zy_216 : plainName (z_mY 216).cls = true := by decide +kernel
theorem zw_1677 : Cond.methodLink (z_mY 216).cls 244 (z_mY 216) ∈ z_TB := z_inT (i := 1677) (by decide +kernel) (by decide +kernel)
theorem zw_1679 : Cond.instanceMethod (z_mY 216) ∈ z_TB := z_inT (i := 1679) (by decide +kernel) (by decide +kernel)
theorem zw_96 : Cond.selects (z_mY 216).cls (z_mY 216) (z_mY 216) ∈ z_TB := z_inT (i := 96) (by decide +kernel) (by decide +kernel)
theorem zcl_216 : z_cls[12]? = some ((z_mY 216).cls, TX12, 39) := rfl
theorem zc_215 : ∀ m, z_ce m 215 1 := fun _ => ⟨z_inT (i := 1664) (by decide +kernel) (by decide +kernel), by decide +kernel, by decide +kernel⟩
theorem zy_215 : plainName (z_mY 215).cls = true := by decide +kernel
theorem zw_1661 : Cond.methodLink (z_mY 217).cls 247 (z_mY 215) ∈ z_TB := z_inT (i := 1661) (by decide +kernel) (by decide +kernel)
theorem zw_1663 : Cond.instanceMethod (z_mY 215) ∈ z_TB := z_inT (i := 1663) (by decide +kernel) (by decide +kernel)
theorem zw_93 : Cond.selects (z_mY 215).cls (z_mY 215) (z_mY 215) ∈ z_TB := z_inT (i := 93) (by decide +kernel) (by decide +kernel)
theorem zcl_215 : z_cls[12]? = some ((z_mY 215).cls, TX12, 39) := rfl
theorem zc_218 : ∀ m, z_ce m 218 3 := fun _ => ⟨z_inT (i := 1707) (by decide +kernel) (by decide +kernel), by decide +kernel, by decide +kernel⟩
theorem zy_218 : plainName (z_mY 218).cls = true := by decide +kernel
theorem zw_1704 : Cond.methodLink (z_mY 219).cls 250 (z_mY 218) ∈ z_TB := z_inT (i := 1704) (by decide +kernel) (by decide +kernel)
theorem zw_1706 : Cond.instanceMethod (z_mY 218) ∈ z_TB := z_inT (i := 1706) (by decide +kernel) (by decide +kernel)
theorem zw_100 : Cond.selects (z_mY 218).cls (z_mY 218) (z_mY 218) ∈ z_TB := z_inT (i := 100) (by decide +kernel) (by decide +kernel)
theorem zcl_218 : z_cls[12]? = some ((z_mY 218).cls, TX12, 39) := rfl
theorem zc_222 : ∀ m, z_ce m 222 0 := fun _ => ⟨z_inT (i := 1463) (by decide +kernel) (by decide +kernel), by decide +kernel, by decide +kernel⟩
theorem zy_222 : plainName (z_mY 222).cls = true := by decide +kernel
theorem zw_1460 : Cond.methodLink (z_mY 224).cls 253 (z_mY 222) ∈ z_TB := z_inT (i := 1460) (by decide +kernel) (by decide +kernel)
theorem zw_1462 : Cond.instanceMethod (z_mY 222) ∈ z_TB := z_inT (i := 1462) (by decide +kernel) (by decide +kernel)
theorem zw_61 : Cond.selects (z_mY 222).cls (z_mY 222) (z_mY 222) ∈ z_TB := z_inT (i := 61) (by decide +kernel) (by decide +kernel)
theorem zcl_222 : z_cls[12]? = some ((z_mY 222).cls, TX12, 39) := rfl
theorem zc_221 : ∀ m, z_ce m 221 1 := fun _ => ⟨z_inT (i := 1421) (by decide +kernel) (by decide +kernel), by decide +kernel, by decide +kernel⟩
theorem zy_221 : plainName (z_mY 221).cls = true := by decide +kernel
theorem zw_1418 : Cond.methodLink (z_mY 225).cls 256 (z_mY 221) ∈ z_TB := z_inT (i := 1418) (by decide +kernel) (by decide +kernel)
theorem zw_1420 : Cond.instanceMethod (z_mY 221) ∈ z_TB := z_inT (i := 1420) (by decide +kernel) (by decide +kernel)
theorem zw_54 : Cond.selects (z_mY 221).cls (z_mY 221) (z_mY 221) ∈ z_TB := z_inT (i := 54) (by decide +kernel) (by decide +kernel)
theorem zcl_221 : z_cls[12]? = some ((z_mY 221).cls, TX12, 39) := rfl
theorem zc_228 : ∀ m, z_ce m 228 5 := fun _ => ⟨z_inT (i := 1425) (by decide +kernel) (by decide +kernel), by decide +kernel, by decide +kernel⟩
theorem zy_228 : plainName (z_mY 228).cls = true := by decide +kernel
theorem zw_1422 : Cond.methodLink (z_mY 225).cls 259 (z_mY 228) ∈ z_TB := z_inT (i := 1422) (by decide +kernel) (by decide +kernel)
theorem zw_1424 : Cond.instanceMethod (z_mY 228) ∈ z_TB := z_inT (i := 1424) (by decide +kernel) (by decide +kernel)
theorem zw_55 : Cond.selects (z_mY 228).cls (z_mY 228) (z_mY 228) ∈ z_TB := z_inT (i := 55) (by decide +kernel) (by decide +kernel)
theorem zcl_228 : z_cls[12]? = some ((z_mY 228).cls, TX12, 39) := rfl
theorem zc_224 : ∀ m, z_ce m 224 5 := fun _ => ⟨z_inT (i := 1467) (by decide +kernel) (by decide +kernel), by decide +kernel, by decide +kernel⟩
theorem zy_224 : plainName (z_mY 224).cls = true := by decide +kernel
theorem zw_1464 : Cond.methodLink (z_mY 225).cls 263 (z_mY 224) ∈ z_TB := z_inT (i := 1464) (by decide +kernel) (by decide +kernel)
theorem zw_1466 : Cond.instanceMethod (z_mY 224) ∈ z_TB := z_inT (i := 1466) (by decide +kernel) (by decide +kernel)
theorem zw_62 : Cond.selects (z_mY 224).cls (z_mY 224) (z_mY 224) ∈ z_TB := z_inT (i := 62) (by decide +kernel) (by decide +kernel)
theorem zcl_224 : z_cls[12]? = some ((z_mY 224).cls, TX12, 39) := rfl
theorem zw_1245 : Cond.fieldLink (z_mY 225).cls 266 "SlabMapModel" "acts" "I" ∈ z_TB := z_inT (i := 1245) (by decide +kernel) (by decide +kernel)
theorem zw_1253 : Cond.fieldLink (z_mY 225).cls 269 "SlabMapModel" "hasImage" "Z" ∈ z_TB := z_inT (i := 1253) (by decide +kernel) (by decide +kernel)
theorem zc_223 : ∀ m, z_ce m 223 0 := fun _ => ⟨z_inT (i := 1471) (by decide +kernel) (by decide +kernel), by decide +kernel, by decide +kernel⟩
theorem zy_223 : plainName (z_mY 223).cls = true := by decide +kernel
theorem zw_1468 : Cond.methodLink (z_mY 225).cls 272 (z_mY 223) ∈ z_TB := z_inT (i := 1468) (by decide +kernel) (by decide +kernel)
theorem zw_1470 : Cond.instanceMethod (z_mY 223) ∈ z_TB := z_inT (i := 1470) (by decide +kernel) (by decide +kernel)
theorem zw_63 : Cond.selects (z_mY 223).cls (z_mY 223) (z_mY 223) ∈ z_TB := z_inT (i := 63) (by decide +kernel) (by decide +kernel)
theorem zcl_223 : z_cls[12]? = some ((z_mY 223).cls, TX12, 39) := rfl
theorem zc_225 : ∀ m, z_ce m 225 0 := fun _ => ⟨z_inT (i := 1417) (by decide +kernel) (by decide +kernel), by decide +kernel, by decide +kernel⟩
theorem zy_225 : plainName (z_mY 225).cls = true := by decide +kernel
theorem zw_1414 : Cond.methodLink (z_mY 226).cls 275 (z_mY 225) ∈ z_TB := z_inT (i := 1414) (by decide +kernel) (by decide +kernel)
theorem zw_1416 : Cond.instanceMethod (z_mY 225) ∈ z_TB := z_inT (i := 1416) (by decide +kernel) (by decide +kernel)
theorem zw_53 : Cond.selects (z_mY 225).cls (z_mY 225) (z_mY 225) ∈ z_TB := z_inT (i := 53) (by decide +kernel) (by decide +kernel)
theorem zcl_225 : z_cls[12]? = some ((z_mY 225).cls, TX12, 39) := rfl
theorem zw_1226 : Cond.fieldLink (z_mY 226).cls 278 "SlabMapModel" "scripts" "I" ∈ z_TB := z_inT (i := 1226) (by decide +kernel) (by decide +kernel)
theorem zc_227 : ∀ m, z_ce m 227 2 := fun _ => ⟨z_inT (i := 1428) (by decide +kernel) (by decide +kernel), by decide +kernel, by decide +kernel⟩
theorem zy_227 : plainName (z_mY 227).cls = true := by decide +kernel
theorem zw_1426 : Cond.methodLink (z_mY 228).cls 281 (z_mY 227) ∈ z_TB := z_inT (i := 1426) (by decide +kernel) (by decide +kernel)
theorem zw_1427 : Cond.static (z_mY 227) ∈ z_TB := z_inT (i := 1427) (by decide +kernel) (by decide +kernel)
theorem zc_202 : ∀ m, z_ce m 202 4 := fun _ => ⟨z_inT (i := 1436) (by decide +kernel) (by decide +kernel), by decide +kernel, by decide +kernel⟩
theorem zy_202 : plainName (z_mY 202).cls = true := by decide +kernel
theorem zw_1433 : Cond.methodLink (z_mY 228).cls 284 (z_mY 202) ∈ z_TB := z_inT (i := 1433) (by decide +kernel) (by decide +kernel)
theorem zw_1435 : Cond.instanceMethod (z_mY 202) ∈ z_TB := z_inT (i := 1435) (by decide +kernel) (by decide +kernel)
theorem zw_57 : Cond.selects (z_mY 202).cls (z_mY 202) (z_mY 202) ∈ z_TB := z_inT (i := 57) (by decide +kernel) (by decide +kernel)
theorem zcl_202 : z_cls[12]? = some ((z_mY 202).cls, TX12, 39) := rfl
theorem zc_193 : ∀ m, z_ce m 193 1 := fun _ => ⟨z_inT (i := 1487) (by decide +kernel) (by decide +kernel), by decide +kernel, by decide +kernel⟩
theorem zy_193 : plainName (z_mY 193).cls = true := by decide +kernel
theorem zw_1484 : Cond.methodLink (z_mY 229).cls 288 (z_mY 193) ∈ z_TB := z_inT (i := 1484) (by decide +kernel) (by decide +kernel)
theorem zw_1486 : Cond.instanceMethod (z_mY 193) ∈ z_TB := z_inT (i := 1486) (by decide +kernel) (by decide +kernel)
theorem zw_66 : Cond.selects (z_mY 193).cls (z_mY 193) (z_mY 193) ∈ z_TB := z_inT (i := 66) (by decide +kernel) (by decide +kernel)
theorem zcl_193 : z_cls[12]? = some ((z_mY 193).cls, TX12, 39) := rfl
theorem zc_229 : ∀ m, z_ce m 229 2 := fun _ => ⟨z_inT (i := 1491) (by decide +kernel) (by decide +kernel), by decide +kernel, by decide +kernel⟩
theorem zy_229 : plainName (z_mY 229).cls = true := by decide +kernel
theorem zw_1488 : Cond.methodLink (z_mY 230).cls 291 (z_mY 229) ∈ z_TB := z_inT (i := 1488) (by decide +kernel) (by decide +kernel)
theorem zw_1490 : Cond.instanceMethod (z_mY 229) ∈ z_TB := z_inT (i := 1490) (by decide +kernel) (by decide +kernel)
theorem zw_67 : Cond.selects (z_mY 229).cls (z_mY 229) (z_mY 229) ∈ z_TB := z_inT (i := 67) (by decide +kernel) (by decide +kernel)
theorem zcl_229 : z_cls[12]? = some ((z_mY 229).cls, TX12, 39) := rfl
theorem zc_231 : ∀ m, z_ce m 231 2 := fun _ => ⟨z_inT (i := 1507) (by decide +kernel) (by decide +kernel), by decide +kernel, by decide +kernel⟩
theorem zy_231 : plainName (z_mY 231).cls = true := by decide +kernel
theorem zw_1504 : Cond.methodLink (z_mY 232).cls 294 (z_mY 231) ∈ z_TB := z_inT (i := 1504) (by decide +kernel) (by decide +kernel)
theorem zw_1506 : Cond.instanceMethod (z_mY 231) ∈ z_TB := z_inT (i := 1506) (by decide +kernel) (by decide +kernel)
theorem zw_71 : Cond.selects (z_mY 231).cls (z_mY 231) (z_mY 231) ∈ z_TB := z_inT (i := 71) (by decide +kernel) (by decide +kernel)
theorem zcl_231 : z_cls[12]? = some ((z_mY 231).cls, TX12, 39) := rfl
theorem zc_207 : ∀ m, z_ce m 207 0 := fun _ => ⟨z_inT (i := 1519) (by decide +kernel) (by decide +kernel), by decide +kernel, by decide +kernel⟩
theorem zy_207 : plainName (z_mY 207).cls = true := by decide +kernel
theorem zw_1516 : Cond.methodLink (z_mY 234).cls 297 (z_mY 207) ∈ z_TB := z_inT (i := 1516) (by decide +kernel) (by decide +kernel)
theorem zw_1518 : Cond.instanceMethod (z_mY 207) ∈ z_TB := z_inT (i := 1518) (by decide +kernel) (by decide +kernel)
theorem zw_74 : Cond.selects (z_mY 207).cls (z_mY 207) (z_mY 207) ∈ z_TB := z_inT (i := 74) (by decide +kernel) (by decide +kernel)
theorem zcl_207 : z_cls[12]? = some ((z_mY 207).cls, TX12, 39) := rfl
theorem zc_234 : ∀ m, z_ce m 234 0 := fun _ => ⟨z_inT (i := 1515) (by decide +kernel) (by decide +kernel), by decide +kernel, by decide +kernel⟩
theorem zy_234 : plainName (z_mY 234).cls = true := by decide +kernel
theorem zw_1512 : Cond.methodLink (z_mY 235).cls 300 (z_mY 234) ∈ z_TB := z_inT (i := 1512) (by decide +kernel) (by decide +kernel)
theorem zw_1514 : Cond.instanceMethod (z_mY 234) ∈ z_TB := z_inT (i := 1514) (by decide +kernel) (by decide +kernel)
theorem zw_73 : Cond.selects (z_mY 234).cls (z_mY 234) (z_mY 234) ∈ z_TB := z_inT (i := 73) (by decide +kernel) (by decide +kernel)
theorem zcl_234 : z_cls[12]? = some ((z_mY 234).cls, TX12, 39) := rfl
theorem zc_233 : ∀ m, z_ce m 233 0 := fun _ => ⟨z_inT (i := 1499) (by decide +kernel) (by decide +kernel), by decide +kernel, by decide +kernel⟩
theorem zy_233 : plainName (z_mY 233).cls = true := by decide +kernel
theorem zw_1496 : Cond.methodLink (z_mY 236).cls 303 (z_mY 233) ∈ z_TB := z_inT (i := 1496) (by decide +kernel) (by decide +kernel)
theorem zw_1498 : Cond.instanceMethod (z_mY 233) ∈ z_TB := z_inT (i := 1498) (by decide +kernel) (by decide +kernel)
theorem zw_69 : Cond.selects (z_mY 233).cls (z_mY 233) (z_mY 233) ∈ z_TB := z_inT (i := 69) (by decide +kernel) (by decide +kernel)
theorem zcl_233 : z_cls[12]? = some ((z_mY 233).cls, TX12, 39) := rfl
theorem zc_232 : ∀ m, z_ce m 232 6 := fun _ => ⟨z_inT (i := 1503) (by decide +kernel) (by decide +kernel), by decide +kernel, by decide +kernel⟩
theorem zy_232 : plainName (z_mY 232).cls = true := by decide +kernel
theorem zw_1500 : Cond.methodLink (z_mY 236).cls 306 (z_mY 232) ∈ z_TB := z_inT (i := 1500) (by decide +kernel) (by decide +kernel)
theorem zw_1502 : Cond.instanceMethod (z_mY 232) ∈ z_TB := z_inT (i := 1502) (by decide +kernel) (by decide +kernel)
theorem zw_70 : Cond.selects (z_mY 232).cls (z_mY 232) (z_mY 232) ∈ z_TB := z_inT (i := 70) (by decide +kernel) (by decide +kernel)
theorem zcl_232 : z_cls[12]? = some ((z_mY 232).cls, TX12, 39) := rfl
theorem zc_235 : ∀ m, z_ce m 235 2 := fun _ => ⟨z_inT (i := 1511) (by decide +kernel) (by decide +kernel), by decide +kernel, by decide +kernel⟩
theorem zy_235 : plainName (z_mY 235).cls = true := by decide +kernel
theorem zw_1508 : Cond.methodLink (z_mY 236).cls 309 (z_mY 235) ∈ z_TB := z_inT (i := 1508) (by decide +kernel) (by decide +kernel)
theorem zw_1510 : Cond.instanceMethod (z_mY 235) ∈ z_TB := z_inT (i := 1510) (by decide +kernel) (by decide +kernel)
theorem zw_72 : Cond.selects (z_mY 235).cls (z_mY 235) (z_mY 235) ∈ z_TB := z_inT (i := 72) (by decide +kernel) (by decide +kernel)
theorem zcl_235 : z_cls[12]? = some ((z_mY 235).cls, TX12, 39) := rfl
theorem zc_230 : ∀ m, z_ce m 230 6 := fun _ => ⟨z_inT (i := 1483) (by decide +kernel) (by decide +kernel), by decide +kernel, by decide +kernel⟩
theorem zy_230 : plainName (z_mY 230).cls = true := by decide +kernel
theorem zw_1480 : Cond.methodLink (z_mY 237).cls 312 (z_mY 230) ∈ z_TB := z_inT (i := 1480) (by decide +kernel) (by decide +kernel)
theorem zw_1482 : Cond.instanceMethod (z_mY 230) ∈ z_TB := z_inT (i := 1482) (by decide +kernel) (by decide +kernel)
theorem zw_65 : Cond.selects (z_mY 230).cls (z_mY 230) (z_mY 230) ∈ z_TB := z_inT (i := 65) (by decide +kernel) (by decide +kernel)
theorem zcl_230 : z_cls[12]? = some ((z_mY 230).cls, TX12, 39) := rfl
theorem zc_236 : ∀ m, z_ce m 236 6 := fun _ => ⟨z_inT (i := 1495) (by decide +kernel) (by decide +kernel), by decide +kernel, by decide +kernel⟩
theorem zy_236 : plainName (z_mY 236).cls = true := by decide +kernel
theorem zw_1492 : Cond.methodLink (z_mY 237).cls 315 (z_mY 236) ∈ z_TB := z_inT (i := 1492) (by decide +kernel) (by decide +kernel)
theorem zw_1494 : Cond.instanceMethod (z_mY 236) ∈ z_TB := z_inT (i := 1494) (by decide +kernel) (by decide +kernel)
theorem zw_68 : Cond.selects (z_mY 236).cls (z_mY 236) (z_mY 236) ∈ z_TB := z_inT (i := 68) (by decide +kernel) (by decide +kernel)
theorem zcl_236 : z_cls[12]? = some ((z_mY 236).cls, TX12, 39) := rfl
theorem zc_237 : ∀ m, z_ce m 237 6 := fun _ => ⟨z_inT (i := 1479) (by decide +kernel) (by decide +kernel), by decide +kernel, by decide +kernel⟩
theorem zy_237 : plainName (z_mY 237).cls = true := by decide +kernel
theorem zw_1476 : Cond.methodLink (z_mY 238).cls 318 (z_mY 237) ∈ z_TB := z_inT (i := 1476) (by decide +kernel) (by decide +kernel)
theorem zw_1478 : Cond.instanceMethod (z_mY 237) ∈ z_TB := z_inT (i := 1478) (by decide +kernel) (by decide +kernel)
theorem zw_64 : Cond.selects (z_mY 237).cls (z_mY 237) (z_mY 237) ∈ z_TB := z_inT (i := 64) (by decide +kernel) (by decide +kernel)
theorem zcl_237 : z_cls[12]? = some ((z_mY 237).cls, TX12, 39) := rfl
theorem zw_1246 : Cond.fieldLink (z_mY 242).cls 321 "SlabMapModel" "drawn" "J" ∈ z_TB := z_inT (i := 1246) (by decide +kernel) (by decide +kernel)
theorem zw_1560 : Cond.constantLong (z_mY 242).cls 325 (6364136223846793005) ∈ z_TB := z_inT (i := 1560) (by decide +kernel) (by decide +kernel)
theorem zw_1561 : Cond.constantLong (z_mY 242).cls 327 (1442695040888963407) ∈ z_TB := z_inT (i := 1561) (by decide +kernel) (by decide +kernel)
theorem zc_242 : ∀ m, z_ce m 242 1 := fun _ => ⟨z_inT (i := 1559) (by decide +kernel) (by decide +kernel), by decide +kernel, by decide +kernel⟩
theorem zy_242 : plainName (z_mY 242).cls = true := by decide +kernel
theorem zw_1556 : Cond.methodLink (z_mY 244).cls 329 (z_mY 242) ∈ z_TB := z_inT (i := 1556) (by decide +kernel) (by decide +kernel)
theorem zw_1558 : Cond.instanceMethod (z_mY 242) ∈ z_TB := z_inT (i := 1558) (by decide +kernel) (by decide +kernel)
theorem zw_80 : Cond.selects (z_mY 242).cls (z_mY 242) (z_mY 242) ∈ z_TB := z_inT (i := 80) (by decide +kernel) (by decide +kernel)
theorem zcl_242 : z_cls[12]? = some ((z_mY 242).cls, TX12, 39) := rfl
theorem zc_243 : ∀ m, z_ce m 243 6 := fun _ => ⟨z_inT (i := 1569) (by decide +kernel) (by decide +kernel), by decide +kernel, by decide +kernel⟩
theorem zy_243 : plainName (z_mY 243).cls = true := by decide +kernel
theorem zw_1566 : Cond.methodLink (z_mY 244).cls 332 (z_mY 243) ∈ z_TB := z_inT (i := 1566) (by decide +kernel) (by decide +kernel)
theorem zw_1568 : Cond.instanceMethod (z_mY 243) ∈ z_TB := z_inT (i := 1568) (by decide +kernel) (by decide +kernel)
theorem zw_82 : Cond.selects (z_mY 243).cls (z_mY 243) (z_mY 243) ∈ z_TB := z_inT (i := 82) (by decide +kernel) (by decide +kernel)
theorem zcl_243 : z_cls[12]? = some ((z_mY 243).cls, TX12, 39) := rfl
theorem zc_244 : ∀ m, z_ce m 244 0 := fun _ => ⟨z_inT (i := 1565) (by decide +kernel) (by decide +kernel), by decide +kernel, by decide +kernel⟩
theorem zy_244 : plainName (z_mY 244).cls = true := by decide +kernel
theorem zw_1562 : Cond.methodLink (z_mY 245).cls 336 (z_mY 244) ∈ z_TB := z_inT (i := 1562) (by decide +kernel) (by decide +kernel)
theorem zw_1564 : Cond.instanceMethod (z_mY 244) ∈ z_TB := z_inT (i := 1564) (by decide +kernel) (by decide +kernel)
theorem zw_81 : Cond.selects (z_mY 244).cls (z_mY 244) (z_mY 244) ∈ z_TB := z_inT (i := 81) (by decide +kernel) (by decide +kernel)
theorem zcl_244 : z_cls[12]? = some ((z_mY 244).cls, TX12, 39) := rfl
theorem zc_245 : ∀ m, z_ce m 245 0 := fun _ => ⟨z_inT (i := 1555) (by decide +kernel) (by decide +kernel), by decide +kernel, by decide +kernel⟩
theorem zy_245 : plainName (z_mY 245).cls = true := by decide +kernel
theorem zw_1552 : Cond.methodLink (z_mY 246).cls 339 (z_mY 245) ∈ z_TB := z_inT (i := 1552) (by decide +kernel) (by decide +kernel)
theorem zw_1554 : Cond.instanceMethod (z_mY 245) ∈ z_TB := z_inT (i := 1554) (by decide +kernel) (by decide +kernel)
theorem zw_79 : Cond.selects (z_mY 245).cls (z_mY 245) (z_mY 245) ∈ z_TB := z_inT (i := 79) (by decide +kernel) (by decide +kernel)
theorem zcl_245 : z_cls[12]? = some ((z_mY 245).cls, TX12, 39) := rfl
theorem zc_172 : ∀ m, z_ce m 172 1 := fun _ => ⟨z_inT (i := 1592) (by decide +kernel) (by decide +kernel), by decide +kernel, by decide +kernel⟩
theorem zy_172 : plainName (z_mY 172).cls = true := by decide +kernel
theorem zw_1590 : Cond.methodLink (z_mY 251).cls 342 (z_mY 172) ∈ z_TB := z_inT (i := 1590) (by decide +kernel) (by decide +kernel)
theorem zw_1591 : Cond.static (z_mY 172) ∈ z_TB := z_inT (i := 1591) (by decide +kernel) (by decide +kernel)
theorem zc_251 : ∀ m, z_ce m 251 0 := fun _ => ⟨z_inT (i := 1589) (by decide +kernel) (by decide +kernel), by decide +kernel, by decide +kernel⟩
theorem zy_251 : plainName (z_mY 251).cls = true := by decide +kernel
theorem zw_1586 : Cond.methodLink (z_mY 253).cls 345 (z_mY 251) ∈ z_TB := z_inT (i := 1586) (by decide +kernel) (by decide +kernel)
theorem zw_1588 : Cond.instanceMethod (z_mY 251) ∈ z_TB := z_inT (i := 1588) (by decide +kernel) (by decide +kernel)
theorem zw_83 : Cond.selects (z_mY 251).cls (z_mY 251) (z_mY 251) ∈ z_TB := z_inT (i := 83) (by decide +kernel) (by decide +kernel)
theorem zcl_251 : z_cls[12]? = some ((z_mY 251).cls, TX12, 39) := rfl
theorem zc_252 : ∀ m, z_ce m 252 0 := fun _ => ⟨z_inT (i := 1596) (by decide +kernel) (by decide +kernel), by decide +kernel, by decide +kernel⟩
theorem zy_252 : plainName (z_mY 252).cls = true := by decide +kernel
theorem zw_1593 : Cond.methodLink (z_mY 253).cls 348 (z_mY 252) ∈ z_TB := z_inT (i := 1593) (by decide +kernel) (by decide +kernel)
theorem zw_1595 : Cond.instanceMethod (z_mY 252) ∈ z_TB := z_inT (i := 1595) (by decide +kernel) (by decide +kernel)
theorem zw_84 : Cond.selects (z_mY 252).cls (z_mY 252) (z_mY 252) ∈ z_TB := z_inT (i := 84) (by decide +kernel) (by decide +kernel)
theorem zcl_252 : z_cls[12]? = some ((z_mY 252).cls, TX12, 39) := rfl
theorem zw_1215 : Cond.fieldLink (z_mY 254).cls 88 "SlabMapModel" "thrown" "I" ∈ z_TB := z_inT (i := 1215) (by decide +kernel) (by decide +kernel)
theorem zc_250 : ∀ m, z_ce m 250 1 := fun _ => ⟨z_inT (i := 1620) (by decide +kernel) (by decide +kernel), by decide +kernel, by decide +kernel⟩
theorem zy_250 : plainName (z_mY 250).cls = true := by decide +kernel
theorem zw_1617 : Cond.methodLink (z_mY 257).cls 351 (z_mY 250) ∈ z_TB := z_inT (i := 1617) (by decide +kernel) (by decide +kernel)
theorem zw_1619 : Cond.instanceMethod (z_mY 250) ∈ z_TB := z_inT (i := 1619) (by decide +kernel) (by decide +kernel)
theorem zw_86 : Cond.selects (z_mY 250).cls (z_mY 250) (z_mY 250) ∈ z_TB := z_inT (i := 86) (by decide +kernel) (by decide +kernel)
theorem zcl_250 : z_cls[12]? = some ((z_mY 250).cls, TX12, 39) := rfl
theorem zc_213 : ∀ m, z_ce m 213 1 := fun _ => ⟨z_inT (i := 1656) (by decide +kernel) (by decide +kernel), by decide +kernel, by decide +kernel⟩
theorem zy_213 : plainName (z_mY 213).cls = true := by decide +kernel
theorem zw_1653 : Cond.methodLink (z_mY 260).cls 354 (z_mY 213) ∈ z_TB := z_inT (i := 1653) (by decide +kernel) (by decide +kernel)
theorem zw_1655 : Cond.instanceMethod (z_mY 213) ∈ z_TB := z_inT (i := 1655) (by decide +kernel) (by decide +kernel)
theorem zw_92 : Cond.selects (z_mY 213).cls (z_mY 213) (z_mY 213) ∈ z_TB := z_inT (i := 92) (by decide +kernel) (by decide +kernel)
theorem zcl_213 : z_cls[12]? = some ((z_mY 213).cls, TX12, 39) := rfl
theorem zc_217 : ∀ m, z_ce m 217 0 := fun _ => ⟨z_inT (i := 1676) (by decide +kernel) (by decide +kernel), by decide +kernel, by decide +kernel⟩
theorem zy_217 : plainName (z_mY 217).cls = true := by decide +kernel
theorem zw_1673 : Cond.methodLink (z_mY 262).cls 357 (z_mY 217) ∈ z_TB := z_inT (i := 1673) (by decide +kernel) (by decide +kernel)
theorem zw_1675 : Cond.instanceMethod (z_mY 217) ∈ z_TB := z_inT (i := 1675) (by decide +kernel) (by decide +kernel)
theorem zw_95 : Cond.selects (z_mY 217).cls (z_mY 217) (z_mY 217) ∈ z_TB := z_inT (i := 95) (by decide +kernel) (by decide +kernel)
theorem zcl_217 : z_cls[12]? = some ((z_mY 217).cls, TX12, 39) := rfl
theorem zc_263 : ∀ m, z_ce m 263 1 := fun _ => ⟨z_inT (i := 1691) (by decide +kernel) (by decide +kernel), by decide +kernel, by decide +kernel⟩
theorem zy_263 : plainName (z_mY 263).cls = true := by decide +kernel
theorem zw_1688 : Cond.methodLink (z_mY 264).cls 360 (z_mY 263) ∈ z_TB := z_inT (i := 1688) (by decide +kernel) (by decide +kernel)
theorem zw_1690 : Cond.instanceMethod (z_mY 263) ∈ z_TB := z_inT (i := 1690) (by decide +kernel) (by decide +kernel)
theorem zw_97 : Cond.selects (z_mY 263).cls (z_mY 263) (z_mY 263) ∈ z_TB := z_inT (i := 97) (by decide +kernel) (by decide +kernel)
theorem zcl_263 : z_cls[12]? = some ((z_mY 263).cls, TX12, 39) := rfl
theorem zc_219 : ∀ m, z_ce m 219 1 := fun _ => ⟨z_inT (i := 1703) (by decide +kernel) (by decide +kernel), by decide +kernel, by decide +kernel⟩
theorem zy_219 : plainName (z_mY 219).cls = true := by decide +kernel
theorem zw_1700 : Cond.methodLink (z_mY 265).cls 363 (z_mY 219) ∈ z_TB := z_inT (i := 1700) (by decide +kernel) (by decide +kernel)
theorem zw_1702 : Cond.instanceMethod (z_mY 219) ∈ z_TB := z_inT (i := 1702) (by decide +kernel) (by decide +kernel)
theorem zw_99 : Cond.selects (z_mY 219).cls (z_mY 219) (z_mY 219) ∈ z_TB := z_inT (i := 99) (by decide +kernel) (by decide +kernel)
theorem zcl_219 : z_cls[12]? = some ((z_mY 219).cls, TX12, 39) := rfl
theorem zc_265 : ∀ m, z_ce m 265 0 := fun _ => ⟨z_inT (i := 1699) (by decide +kernel) (by decide +kernel), by decide +kernel, by decide +kernel⟩
theorem zy_265 : plainName (z_mY 265).cls = true := by decide +kernel
theorem zw_1696 : Cond.methodLink (z_mY 266).cls 366 (z_mY 265) ∈ z_TB := z_inT (i := 1696) (by decide +kernel) (by decide +kernel)
theorem zw_1698 : Cond.instanceMethod (z_mY 265) ∈ z_TB := z_inT (i := 1698) (by decide +kernel) (by decide +kernel)
theorem zw_98 : Cond.selects (z_mY 265).cls (z_mY 265) (z_mY 265) ∈ z_TB := z_inT (i := 98) (by decide +kernel) (by decide +kernel)
theorem zcl_265 : z_cls[12]? = some ((z_mY 265).cls, TX12, 39) := rfl
theorem zc_220 : ∀ m, z_ce m 220 0 := fun _ => ⟨z_inT (i := 1711) (by decide +kernel) (by decide +kernel), by decide +kernel, by decide +kernel⟩
theorem zy_220 : plainName (z_mY 220).cls = true := by decide +kernel
theorem zw_1708 : Cond.methodLink (z_mY 266).cls 369 (z_mY 220) ∈ z_TB := z_inT (i := 1708) (by decide +kernel) (by decide +kernel)
theorem zw_1710 : Cond.instanceMethod (z_mY 220) ∈ z_TB := z_inT (i := 1710) (by decide +kernel) (by decide +kernel)
theorem zw_101 : Cond.selects (z_mY 220).cls (z_mY 220) (z_mY 220) ∈ z_TB := z_inT (i := 101) (by decide +kernel) (by decide +kernel)
theorem zcl_220 : z_cls[12]? = some ((z_mY 220).cls, TX12, 39) := rfl
theorem zw_1250 : Cond.fieldLink (z_mY 269).cls 372 "SlabMapModel" "slabsThen" "I" ∈ z_TB := z_inT (i := 1250) (by decide +kernel) (by decide +kernel)
theorem zc_268 : ∀ m, z_ce m 268 2 := fun _ => ⟨z_inT (i := 1727) (by decide +kernel) (by decide +kernel), by decide +kernel, by decide +kernel⟩
theorem zy_268 : plainName (z_mY 268).cls = true := by decide +kernel
theorem zw_1724 : Cond.methodLink (z_mY 269).cls 375 (z_mY 268) ∈ z_TB := z_inT (i := 1724) (by decide +kernel) (by decide +kernel)
theorem zw_1726 : Cond.instanceMethod (z_mY 268) ∈ z_TB := z_inT (i := 1726) (by decide +kernel) (by decide +kernel)
theorem zw_104 : Cond.selects (z_mY 268).cls (z_mY 268) (z_mY 268) ∈ z_TB := z_inT (i := 104) (by decide +kernel) (by decide +kernel)
theorem zcl_268 : z_cls[12]? = some ((z_mY 268).cls, TX12, 39) := rfl
theorem zc_267 : ∀ m, z_ce m 267 0 := fun _ => ⟨z_inT (i := 1719) (by decide +kernel) (by decide +kernel), by decide +kernel, by decide +kernel⟩
theorem zy_267 : plainName (z_mY 267).cls = true := by decide +kernel
theorem zw_1716 : Cond.methodLink (z_mY 270).cls 378 (z_mY 267) ∈ z_TB := z_inT (i := 1716) (by decide +kernel) (by decide +kernel)
theorem zw_1718 : Cond.instanceMethod (z_mY 267) ∈ z_TB := z_inT (i := 1718) (by decide +kernel) (by decide +kernel)
theorem zw_102 : Cond.selects (z_mY 267).cls (z_mY 267) (z_mY 267) ∈ z_TB := z_inT (i := 102) (by decide +kernel) (by decide +kernel)
theorem zcl_267 : z_cls[12]? = some ((z_mY 267).cls, TX12, 39) := rfl
theorem zc_269 : ∀ m, z_ce m 269 0 := fun _ => ⟨z_inT (i := 1723) (by decide +kernel) (by decide +kernel), by decide +kernel, by decide +kernel⟩
theorem zy_269 : plainName (z_mY 269).cls = true := by decide +kernel
theorem zw_1720 : Cond.methodLink (z_mY 270).cls 381 (z_mY 269) ∈ z_TB := z_inT (i := 1720) (by decide +kernel) (by decide +kernel)
theorem zw_1722 : Cond.instanceMethod (z_mY 269) ∈ z_TB := z_inT (i := 1722) (by decide +kernel) (by decide +kernel)
theorem zw_103 : Cond.selects (z_mY 269).cls (z_mY 269) (z_mY 269) ∈ z_TB := z_inT (i := 103) (by decide +kernel) (by decide +kernel)
theorem zcl_269 : z_cls[12]? = some ((z_mY 269).cls, TX12, 39) := rfl
theorem zc_272 : ∀ m, z_ce m 272 0 := fun _ => ⟨z_inT (i := 1739) (by decide +kernel) (by decide +kernel), by decide +kernel, by decide +kernel⟩
theorem zy_272 : plainName (z_mY 272).cls = true := by decide +kernel
theorem zw_1736 : Cond.methodLink (z_mY 274).cls 384 (z_mY 272) ∈ z_TB := z_inT (i := 1736) (by decide +kernel) (by decide +kernel)
theorem zw_1738 : Cond.instanceMethod (z_mY 272) ∈ z_TB := z_inT (i := 1738) (by decide +kernel) (by decide +kernel)
theorem zw_105 : Cond.selects (z_mY 272).cls (z_mY 272) (z_mY 272) ∈ z_TB := z_inT (i := 105) (by decide +kernel) (by decide +kernel)
theorem zcl_272 : z_cls[12]? = some ((z_mY 272).cls, TX12, 39) := rfl
theorem zc_273 : ∀ m, z_ce m 273 0 := fun _ => ⟨z_inT (i := 1743) (by decide +kernel) (by decide +kernel), by decide +kernel, by decide +kernel⟩
theorem zy_273 : plainName (z_mY 273).cls = true := by decide +kernel
theorem zw_1740 : Cond.methodLink (z_mY 274).cls 387 (z_mY 273) ∈ z_TB := z_inT (i := 1740) (by decide +kernel) (by decide +kernel)
theorem zw_1742 : Cond.instanceMethod (z_mY 273) ∈ z_TB := z_inT (i := 1742) (by decide +kernel) (by decide +kernel)
theorem zw_106 : Cond.selects (z_mY 273).cls (z_mY 273) (z_mY 273) ∈ z_TB := z_inT (i := 106) (by decide +kernel) (by decide +kernel)
theorem zcl_273 : z_cls[12]? = some ((z_mY 273).cls, TX12, 39) := rfl
theorem zc_278 : ∀ m, z_ce m 278 1 := fun _ => ⟨z_inT (i := 1763) (by decide +kernel) (by decide +kernel), by decide +kernel, by decide +kernel⟩
theorem zy_278 : plainName (z_mY 278).cls = true := by decide +kernel
theorem zw_1760 : Cond.methodLink (z_mY 279).cls 390 (z_mY 278) ∈ z_TB := z_inT (i := 1760) (by decide +kernel) (by decide +kernel)
theorem zw_1762 : Cond.instanceMethod (z_mY 278) ∈ z_TB := z_inT (i := 1762) (by decide +kernel) (by decide +kernel)
theorem zw_107 : Cond.selects (z_mY 278).cls (z_mY 278) (z_mY 278) ∈ z_TB := z_inT (i := 107) (by decide +kernel) (by decide +kernel)
theorem zcl_278 : z_cls[12]? = some ((z_mY 278).cls, TX12, 39) := rfl
theorem zc_280 : ∀ m, z_ce m 280 2 := fun _ => ⟨z_inT (i := 1771) (by decide +kernel) (by decide +kernel), by decide +kernel, by decide +kernel⟩
theorem zy_280 : plainName (z_mY 280).cls = true := by decide +kernel
theorem zw_1768 : Cond.methodLink (z_mY 281).cls 393 (z_mY 280) ∈ z_TB := z_inT (i := 1768) (by decide +kernel) (by decide +kernel)
theorem zw_1770 : Cond.instanceMethod (z_mY 280) ∈ z_TB := z_inT (i := 1770) (by decide +kernel) (by decide +kernel)
theorem zw_108 : Cond.selects (z_mY 280).cls (z_mY 280) (z_mY 280) ∈ z_TB := z_inT (i := 108) (by decide +kernel) (by decide +kernel)
theorem zcl_280 : z_cls[12]? = some ((z_mY 280).cls, TX12, 39) := rfl
theorem zc_288 : ∀ m, z_ce m 288 2 := fun _ => ⟨z_inT (i := 1807) (by decide +kernel) (by decide +kernel), by decide +kernel, by decide +kernel⟩
theorem zy_288 : plainName (z_mY 288).cls = true := by decide +kernel
theorem zw_1804 : Cond.methodLink (z_mY 289).cls 397 (z_mY 288) ∈ z_TB := z_inT (i := 1804) (by decide +kernel) (by decide +kernel)
theorem zw_1806 : Cond.instanceMethod (z_mY 288) ∈ z_TB := z_inT (i := 1806) (by decide +kernel) (by decide +kernel)
theorem zw_115 : Cond.selects (z_mY 288).cls (z_mY 288) (z_mY 288) ∈ z_TB := z_inT (i := 115) (by decide +kernel) (by decide +kernel)
theorem zcl_288 : z_cls[12]? = some ((z_mY 288).cls, TX12, 39) := rfl
theorem zc_283 : ∀ m, z_ce m 283 0 := fun _ => ⟨z_inT (i := 1783) (by decide +kernel) (by decide +kernel), by decide +kernel, by decide +kernel⟩
theorem zy_283 : plainName (z_mY 283).cls = true := by decide +kernel
theorem zw_1780 : Cond.methodLink (z_mY 290).cls 400 (z_mY 283) ∈ z_TB := z_inT (i := 1780) (by decide +kernel) (by decide +kernel)
theorem zw_1782 : Cond.instanceMethod (z_mY 283) ∈ z_TB := z_inT (i := 1782) (by decide +kernel) (by decide +kernel)
theorem zw_109 : Cond.selects (z_mY 283).cls (z_mY 283) (z_mY 283) ∈ z_TB := z_inT (i := 109) (by decide +kernel) (by decide +kernel)
theorem zcl_283 : z_cls[12]? = some ((z_mY 283).cls, TX12, 39) := rfl
theorem zc_284 : ∀ m, z_ce m 284 0 := fun _ => ⟨z_inT (i := 1787) (by decide +kernel) (by decide +kernel), by decide +kernel, by decide +kernel⟩
theorem zy_284 : plainName (z_mY 284).cls = true := by decide +kernel
theorem zw_1784 : Cond.methodLink (z_mY 290).cls 403 (z_mY 284) ∈ z_TB := z_inT (i := 1784) (by decide +kernel) (by decide +kernel)
theorem zw_1786 : Cond.instanceMethod (z_mY 284) ∈ z_TB := z_inT (i := 1786) (by decide +kernel) (by decide +kernel)
theorem zw_110 : Cond.selects (z_mY 284).cls (z_mY 284) (z_mY 284) ∈ z_TB := z_inT (i := 110) (by decide +kernel) (by decide +kernel)
theorem zcl_284 : z_cls[12]? = some ((z_mY 284).cls, TX12, 39) := rfl
theorem zc_285 : ∀ m, z_ce m 285 0 := fun _ => ⟨z_inT (i := 1791) (by decide +kernel) (by decide +kernel), by decide +kernel, by decide +kernel⟩
theorem zy_285 : plainName (z_mY 285).cls = true := by decide +kernel
theorem zw_1788 : Cond.methodLink (z_mY 290).cls 406 (z_mY 285) ∈ z_TB := z_inT (i := 1788) (by decide +kernel) (by decide +kernel)
theorem zw_1790 : Cond.instanceMethod (z_mY 285) ∈ z_TB := z_inT (i := 1790) (by decide +kernel) (by decide +kernel)
theorem zw_111 : Cond.selects (z_mY 285).cls (z_mY 285) (z_mY 285) ∈ z_TB := z_inT (i := 111) (by decide +kernel) (by decide +kernel)
theorem zcl_285 : z_cls[12]? = some ((z_mY 285).cls, TX12, 39) := rfl
theorem zc_286 : ∀ m, z_ce m 286 0 := fun _ => ⟨z_inT (i := 1795) (by decide +kernel) (by decide +kernel), by decide +kernel, by decide +kernel⟩
theorem zy_286 : plainName (z_mY 286).cls = true := by decide +kernel
theorem zw_1792 : Cond.methodLink (z_mY 290).cls 409 (z_mY 286) ∈ z_TB := z_inT (i := 1792) (by decide +kernel) (by decide +kernel)
theorem zw_1794 : Cond.instanceMethod (z_mY 286) ∈ z_TB := z_inT (i := 1794) (by decide +kernel) (by decide +kernel)
theorem zw_112 : Cond.selects (z_mY 286).cls (z_mY 286) (z_mY 286) ∈ z_TB := z_inT (i := 112) (by decide +kernel) (by decide +kernel)
theorem zcl_286 : z_cls[12]? = some ((z_mY 286).cls, TX12, 39) := rfl
theorem zc_287 : ∀ m, z_ce m 287 0 := fun _ => ⟨z_inT (i := 1799) (by decide +kernel) (by decide +kernel), by decide +kernel, by decide +kernel⟩
theorem zy_287 : plainName (z_mY 287).cls = true := by decide +kernel
theorem zw_1796 : Cond.methodLink (z_mY 290).cls 412 (z_mY 287) ∈ z_TB := z_inT (i := 1796) (by decide +kernel) (by decide +kernel)
theorem zw_1798 : Cond.instanceMethod (z_mY 287) ∈ z_TB := z_inT (i := 1798) (by decide +kernel) (by decide +kernel)
theorem zw_113 : Cond.selects (z_mY 287).cls (z_mY 287) (z_mY 287) ∈ z_TB := z_inT (i := 113) (by decide +kernel) (by decide +kernel)
theorem zcl_287 : z_cls[12]? = some ((z_mY 287).cls, TX12, 39) := rfl
theorem zc_289 : ∀ m, z_ce m 289 0 := fun _ => ⟨z_inT (i := 1803) (by decide +kernel) (by decide +kernel), by decide +kernel, by decide +kernel⟩
theorem zy_289 : plainName (z_mY 289).cls = true := by decide +kernel
theorem zw_1800 : Cond.methodLink (z_mY 290).cls 415 (z_mY 289) ∈ z_TB := z_inT (i := 1800) (by decide +kernel) (by decide +kernel)
theorem zw_1802 : Cond.instanceMethod (z_mY 289) ∈ z_TB := z_inT (i := 1802) (by decide +kernel) (by decide +kernel)
theorem zw_114 : Cond.selects (z_mY 289).cls (z_mY 289) (z_mY 289) ∈ z_TB := z_inT (i := 114) (by decide +kernel) (by decide +kernel)
theorem zcl_289 : z_cls[12]? = some ((z_mY 289).cls, TX12, 39) := rfl
theorem zw_692 : Cond.constant (z_mY 294).cls 265 (1431655765) ∈ z_TB := z_inT (i := 692) (by decide +kernel) (by decide +kernel)
theorem zw_693 : Cond.constant (z_mY 294).cls 266 (858993459) ∈ z_TB := z_inT (i := 693) (by decide +kernel) (by decide +kernel)
theorem zw_694 : Cond.constant (z_mY 294).cls 267 (252645135) ∈ z_TB := z_inT (i := 694) (by decide +kernel) (by decide +kernel)
theorem zw_682 : Cond.constantLong (z_mY 295).cls 314 (6148914691236517205) ∈ z_TB := z_inT (i := 682) (by decide +kernel) (by decide +kernel)
theorem zw_683 : Cond.constantLong (z_mY 295).cls 316 (3689348814741910323) ∈ z_TB := z_inT (i := 683) (by decide +kernel) (by decide +kernel)
theorem zw_684 : Cond.constantLong (z_mY 295).cls 318 (1085102592571150095) ∈ z_TB := z_inT (i := 684) (by decide +kernel) (by decide +kernel)
theorem zw_139 : Cond.classLink (z_mY 300).cls 8 "SlabMap" ∈ z_TB := z_inT (i := 139) (by decide +kernel) (by decide +kernel)
theorem zw_140 : Cond.instantiable "SlabMap" 19 ∈ z_TB := z_inT (i := 140) (by decide +kernel) (by decide +kernel)
theorem zc_119 : ∀ m, z_ce m 119 0 := fun _ => ⟨z_inT (i := 143) (by decide +kernel) (by decide +kernel), by decide +kernel, by decide +kernel⟩
theorem zy_119 : plainName (z_mY 119).cls = true := by decide +kernel
theorem zw_141 : Cond.methodLink (z_mY 300).cls 15 (z_mY 119) ∈ z_TB := z_inT (i := 141) (by decide +kernel) (by decide +kernel)
theorem zw_142 : Cond.instanceMethod (z_mY 119) ∈ z_TB := z_inT (i := 142) (by decide +kernel) (by decide +kernel)
theorem zcl_119 : z_cls[11]? = some ((z_mY 119).cls, TX11, 19) := rfl
theorem zw_1209 : Cond.classLink (z_mY 300).cls 16 "SlabMapModel" ∈ z_TB := z_inT (i := 1209) (by decide +kernel) (by decide +kernel)
theorem zw_1210 : Cond.instantiable "SlabMapModel" 39 ∈ z_TB := z_inT (i := 1210) (by decide +kernel) (by decide +kernel)
theorem zc_173 : ∀ m, z_ce m 173 0 := fun _ => ⟨z_inT (i := 1213) (by decide +kernel) (by decide +kernel), by decide +kernel, by decide +kernel⟩
theorem zy_173 : plainName (z_mY 173).cls = true := by decide +kernel
theorem zw_1211 : Cond.methodLink (z_mY 300).cls 18 (z_mY 173) ∈ z_TB := z_inT (i := 1211) (by decide +kernel) (by decide +kernel)
theorem zw_1212 : Cond.instanceMethod (z_mY 173) ∈ z_TB := z_inT (i := 1212) (by decide +kernel) (by decide +kernel)
theorem zcl_173 : z_cls[12]? = some ((z_mY 173).cls, TX12, 39) := rfl
theorem zw_1821 : Cond.arrayClass .long ∈ z_TB := z_inT (i := 1821) (by decide +kernel) (by decide +kernel)
theorem zc_120 : ∀ m, z_ce m 120 5 := fun _ => ⟨z_inT (i := 441) (by decide +kernel) (by decide +kernel), by decide +kernel, by decide +kernel⟩
theorem zy_120 : plainName (z_mY 120).cls = true := by decide +kernel
theorem zw_438 : Cond.methodLink (z_mY 300).cls 19 (z_mY 120) ∈ z_TB := z_inT (i := 438) (by decide +kernel) (by decide +kernel)
theorem zw_439 : Cond.instanceMethod (z_mY 120) ∈ z_TB := z_inT (i := 439) (by decide +kernel) (by decide +kernel)
theorem zw_440 : Cond.selects (z_mY 120).cls (z_mY 120) (z_mY 120) ∈ z_TB := z_inT (i := 440) (by decide +kernel) (by decide +kernel)
theorem zcl_120 : z_cls[11]? = some ((z_mY 120).cls, TX11, 19) := rfl
theorem zc_175 : ∀ m, z_ce m 175 5 := fun _ => ⟨z_inT (i := 1336) (by decide +kernel) (by decide +kernel), by decide +kernel, by decide +kernel⟩
theorem zy_175 : plainName (z_mY 175).cls = true := by decide +kernel
theorem zw_1333 : Cond.methodLink (z_mY 300).cls 23 (z_mY 175) ∈ z_TB := z_inT (i := 1333) (by decide +kernel) (by decide +kernel)
theorem zw_1334 : Cond.instanceMethod (z_mY 175) ∈ z_TB := z_inT (i := 1334) (by decide +kernel) (by decide +kernel)
theorem zw_1335 : Cond.selects (z_mY 175).cls (z_mY 175) (z_mY 175) ∈ z_TB := z_inT (i := 1335) (by decide +kernel) (by decide +kernel)
theorem zcl_175 : z_cls[12]? = some ((z_mY 175).cls, TX12, 39) := rfl
theorem zc_121 : ∀ m, z_ce m 121 1 := fun _ => ⟨z_inT (i := 452) (by decide +kernel) (by decide +kernel), by decide +kernel, by decide +kernel⟩
theorem zy_121 : plainName (z_mY 121).cls = true := by decide +kernel
theorem zw_449 : Cond.methodLink (z_mY 300).cls 24 (z_mY 121) ∈ z_TB := z_inT (i := 449) (by decide +kernel) (by decide +kernel)
theorem zw_450 : Cond.instanceMethod (z_mY 121) ∈ z_TB := z_inT (i := 450) (by decide +kernel) (by decide +kernel)
theorem zw_451 : Cond.selects (z_mY 121).cls (z_mY 121) (z_mY 121) ∈ z_TB := z_inT (i := 451) (by decide +kernel) (by decide +kernel)
theorem zcl_121 : z_cls[11]? = some ((z_mY 121).cls, TX11, 19) := rfl
theorem zc_176 : ∀ m, z_ce m 176 1 := fun _ => ⟨z_inT (i := 1343) (by decide +kernel) (by decide +kernel), by decide +kernel, by decide +kernel⟩
theorem zy_176 : plainName (z_mY 176).cls = true := by decide +kernel
theorem zw_1340 : Cond.methodLink (z_mY 300).cls 28 (z_mY 176) ∈ z_TB := z_inT (i := 1340) (by decide +kernel) (by decide +kernel)
theorem zw_1341 : Cond.instanceMethod (z_mY 176) ∈ z_TB := z_inT (i := 1341) (by decide +kernel) (by decide +kernel)
theorem zw_1342 : Cond.selects (z_mY 176).cls (z_mY 176) (z_mY 176) ∈ z_TB := z_inT (i := 1342) (by decide +kernel) (by decide +kernel)
theorem zcl_176 : z_cls[12]? = some ((z_mY 176).cls, TX12, 39) := rfl
theorem zc_122 : ∀ m, z_ce m 122 1 := fun _ => ⟨z_inT (i := 456) (by decide +kernel) (by decide +kernel), by decide +kernel, by decide +kernel⟩
theorem zy_122 : plainName (z_mY 122).cls = true := by decide +kernel
theorem zw_453 : Cond.methodLink (z_mY 300).cls 29 (z_mY 122) ∈ z_TB := z_inT (i := 453) (by decide +kernel) (by decide +kernel)
theorem zw_454 : Cond.instanceMethod (z_mY 122) ∈ z_TB := z_inT (i := 454) (by decide +kernel) (by decide +kernel)
theorem zw_455 : Cond.selects (z_mY 122).cls (z_mY 122) (z_mY 122) ∈ z_TB := z_inT (i := 455) (by decide +kernel) (by decide +kernel)
theorem zcl_122 : z_cls[11]? = some ((z_mY 122).cls, TX11, 19) := rfl
theorem zc_192 : ∀ m, z_ce m 192 1 := fun _ => ⟨z_inT (i := 1350) (by decide +kernel) (by decide +kernel), by decide +kernel, by decide +kernel⟩
theorem zy_192 : plainName (z_mY 192).cls = true := by decide +kernel
theorem zw_1347 : Cond.methodLink (z_mY 300).cls 33 (z_mY 192) ∈ z_TB := z_inT (i := 1347) (by decide +kernel) (by decide +kernel)
theorem zw_1348 : Cond.instanceMethod (z_mY 192) ∈ z_TB := z_inT (i := 1348) (by decide +kernel) (by decide +kernel)
theorem zw_1349 : Cond.selects (z_mY 192).cls (z_mY 192) (z_mY 192) ∈ z_TB := z_inT (i := 1349) (by decide +kernel) (by decide +kernel)
theorem zcl_192 : z_cls[12]? = some ((z_mY 192).cls, TX12, 39) := rfl
theorem zc_123 : ∀ m, z_ce m 123 1 := fun _ => ⟨z_inT (i := 530) (by decide +kernel) (by decide +kernel), by decide +kernel, by decide +kernel⟩
theorem zy_123 : plainName (z_mY 123).cls = true := by decide +kernel
theorem zw_527 : Cond.methodLink (z_mY 300).cls 34 (z_mY 123) ∈ z_TB := z_inT (i := 527) (by decide +kernel) (by decide +kernel)
theorem zw_528 : Cond.instanceMethod (z_mY 123) ∈ z_TB := z_inT (i := 528) (by decide +kernel) (by decide +kernel)
theorem zw_529 : Cond.selects (z_mY 123).cls (z_mY 123) (z_mY 123) ∈ z_TB := z_inT (i := 529) (by decide +kernel) (by decide +kernel)
theorem zcl_123 : z_cls[11]? = some ((z_mY 123).cls, TX11, 19) := rfl
theorem zc_226 : ∀ m, z_ce m 226 1 := fun _ => ⟨z_inT (i := 1413) (by decide +kernel) (by decide +kernel), by decide +kernel, by decide +kernel⟩
theorem zy_226 : plainName (z_mY 226).cls = true := by decide +kernel
theorem zw_1410 : Cond.methodLink (z_mY 300).cls 37 (z_mY 226) ∈ z_TB := z_inT (i := 1410) (by decide +kernel) (by decide +kernel)
theorem zw_1411 : Cond.instanceMethod (z_mY 226) ∈ z_TB := z_inT (i := 1411) (by decide +kernel) (by decide +kernel)
theorem zw_1412 : Cond.selects (z_mY 226).cls (z_mY 226) (z_mY 226) ∈ z_TB := z_inT (i := 1412) (by decide +kernel) (by decide +kernel)
theorem zcl_226 : z_cls[12]? = some ((z_mY 226).cls, TX12, 39) := rfl
theorem zc_126 : ∀ m, z_ce m 126 1 := fun _ => ⟨z_inT (i := 670) (by decide +kernel) (by decide +kernel), by decide +kernel, by decide +kernel⟩
theorem zy_126 : plainName (z_mY 126).cls = true := by decide +kernel
theorem zw_667 : Cond.methodLink (z_mY 300).cls 38 (z_mY 126) ∈ z_TB := z_inT (i := 667) (by decide +kernel) (by decide +kernel)
theorem zw_668 : Cond.instanceMethod (z_mY 126) ∈ z_TB := z_inT (i := 668) (by decide +kernel) (by decide +kernel)
theorem zw_669 : Cond.selects (z_mY 126).cls (z_mY 126) (z_mY 126) ∈ z_TB := z_inT (i := 669) (by decide +kernel) (by decide +kernel)
theorem zcl_126 : z_cls[11]? = some ((z_mY 126).cls, TX11, 19) := rfl
theorem zc_253 : ∀ m, z_ce m 253 1 := fun _ => ⟨z_inT (i := 1585) (by decide +kernel) (by decide +kernel), by decide +kernel, by decide +kernel⟩
theorem zy_253 : plainName (z_mY 253).cls = true := by decide +kernel
theorem zw_1582 : Cond.methodLink (z_mY 300).cls 41 (z_mY 253) ∈ z_TB := z_inT (i := 1582) (by decide +kernel) (by decide +kernel)
theorem zw_1583 : Cond.instanceMethod (z_mY 253) ∈ z_TB := z_inT (i := 1583) (by decide +kernel) (by decide +kernel)
theorem zw_1584 : Cond.selects (z_mY 253).cls (z_mY 253) (z_mY 253) ∈ z_TB := z_inT (i := 1584) (by decide +kernel) (by decide +kernel)
theorem zcl_253 : z_cls[12]? = some ((z_mY 253).cls, TX12, 39) := rfl
theorem zc_254 : ∀ m, z_ce m 254 2 := fun _ => ⟨z_inT (i := 1600) (by decide +kernel) (by decide +kernel), by decide +kernel, by decide +kernel⟩
theorem zy_254 : plainName (z_mY 254).cls = true := by decide +kernel
theorem zw_1597 : Cond.methodLink (z_mY 300).cls 47 (z_mY 254) ∈ z_TB := z_inT (i := 1597) (by decide +kernel) (by decide +kernel)
theorem zw_1598 : Cond.instanceMethod (z_mY 254) ∈ z_TB := z_inT (i := 1598) (by decide +kernel) (by decide +kernel)
theorem zw_1599 : Cond.selects (z_mY 254).cls (z_mY 254) (z_mY 254) ∈ z_TB := z_inT (i := 1599) (by decide +kernel) (by decide +kernel)
theorem zcl_254 : z_cls[12]? = some ((z_mY 254).cls, TX12, 39) := rfl
theorem zc_129 : ∀ m, z_ce m 129 2 := fun _ => ⟨z_inT (i := 702) (by decide +kernel) (by decide +kernel), by decide +kernel, by decide +kernel⟩
theorem zy_129 : plainName (z_mY 129).cls = true := by decide +kernel
theorem zw_699 : Cond.methodLink (z_mY 300).cls 48 (z_mY 129) ∈ z_TB := z_inT (i := 699) (by decide +kernel) (by decide +kernel)
theorem zw_700 : Cond.instanceMethod (z_mY 129) ∈ z_TB := z_inT (i := 700) (by decide +kernel) (by decide +kernel)
theorem zw_701 : Cond.selects (z_mY 129).cls (z_mY 129) (z_mY 129) ∈ z_TB := z_inT (i := 701) (by decide +kernel) (by decide +kernel)
theorem zcl_129 : z_cls[11]? = some ((z_mY 129).cls, TX11, 19) := rfl
theorem zc_255 : ∀ m, z_ce m 255 2 := fun _ => ⟨z_inT (i := 1608) (by decide +kernel) (by decide +kernel), by decide +kernel, by decide +kernel⟩
theorem zy_255 : plainName (z_mY 255).cls = true := by decide +kernel
theorem zw_1605 : Cond.methodLink (z_mY 300).cls 51 (z_mY 255) ∈ z_TB := z_inT (i := 1605) (by decide +kernel) (by decide +kernel)
theorem zw_1606 : Cond.instanceMethod (z_mY 255) ∈ z_TB := z_inT (i := 1606) (by decide +kernel) (by decide +kernel)
theorem zw_1607 : Cond.selects (z_mY 255).cls (z_mY 255) (z_mY 255) ∈ z_TB := z_inT (i := 1607) (by decide +kernel) (by decide +kernel)
theorem zcl_255 : z_cls[12]? = some ((z_mY 255).cls, TX12, 39) := rfl
theorem zc_130 : ∀ m, z_ce m 130 2 := fun _ => ⟨z_inT (i := 753) (by decide +kernel) (by decide +kernel), by decide +kernel, by decide +kernel⟩
theorem zy_130 : plainName (z_mY 130).cls = true := by decide +kernel
theorem zw_750 : Cond.methodLink (z_mY 300).cls 52 (z_mY 130) ∈ z_TB := z_inT (i := 750) (by decide +kernel) (by decide +kernel)
theorem zw_751 : Cond.instanceMethod (z_mY 130) ∈ z_TB := z_inT (i := 751) (by decide +kernel) (by decide +kernel)
theorem zw_752 : Cond.selects (z_mY 130).cls (z_mY 130) (z_mY 130) ∈ z_TB := z_inT (i := 752) (by decide +kernel) (by decide +kernel)
theorem zcl_130 : z_cls[11]? = some ((z_mY 130).cls, TX11, 19) := rfl
theorem zc_256 : ∀ m, z_ce m 256 2 := fun _ => ⟨z_inT (i := 1612) (by decide +kernel) (by decide +kernel), by decide +kernel, by decide +kernel⟩
theorem zy_256 : plainName (z_mY 256).cls = true := by decide +kernel
theorem zw_1609 : Cond.methodLink (z_mY 300).cls 55 (z_mY 256) ∈ z_TB := z_inT (i := 1609) (by decide +kernel) (by decide +kernel)
theorem zw_1610 : Cond.instanceMethod (z_mY 256) ∈ z_TB := z_inT (i := 1610) (by decide +kernel) (by decide +kernel)
theorem zw_1611 : Cond.selects (z_mY 256).cls (z_mY 256) (z_mY 256) ∈ z_TB := z_inT (i := 1611) (by decide +kernel) (by decide +kernel)
theorem zcl_256 : z_cls[12]? = some ((z_mY 256).cls, TX12, 39) := rfl
theorem zc_131 : ∀ m, z_ce m 131 4 := fun _ => ⟨z_inT (i := 762) (by decide +kernel) (by decide +kernel), by decide +kernel, by decide +kernel⟩
theorem zy_131 : plainName (z_mY 131).cls = true := by decide +kernel
theorem zw_759 : Cond.methodLink (z_mY 300).cls 56 (z_mY 131) ∈ z_TB := z_inT (i := 759) (by decide +kernel) (by decide +kernel)
theorem zw_760 : Cond.instanceMethod (z_mY 131) ∈ z_TB := z_inT (i := 760) (by decide +kernel) (by decide +kernel)
theorem zw_761 : Cond.selects (z_mY 131).cls (z_mY 131) (z_mY 131) ∈ z_TB := z_inT (i := 761) (by decide +kernel) (by decide +kernel)
theorem zcl_131 : z_cls[11]? = some ((z_mY 131).cls, TX11, 19) := rfl
theorem zc_257 : ∀ m, z_ce m 257 4 := fun _ => ⟨z_inT (i := 1616) (by decide +kernel) (by decide +kernel), by decide +kernel, by decide +kernel⟩
theorem zy_257 : plainName (z_mY 257).cls = true := by decide +kernel
theorem zw_1613 : Cond.methodLink (z_mY 300).cls 60 (z_mY 257) ∈ z_TB := z_inT (i := 1613) (by decide +kernel) (by decide +kernel)
theorem zw_1614 : Cond.instanceMethod (z_mY 257) ∈ z_TB := z_inT (i := 1614) (by decide +kernel) (by decide +kernel)
theorem zw_1615 : Cond.selects (z_mY 257).cls (z_mY 257) (z_mY 257) ∈ z_TB := z_inT (i := 1615) (by decide +kernel) (by decide +kernel)
theorem zcl_257 : z_cls[12]? = some ((z_mY 257).cls, TX12, 39) := rfl
theorem zc_132 : ∀ m, z_ce m 132 3 := fun _ => ⟨z_inT (i := 798) (by decide +kernel) (by decide +kernel), by decide +kernel, by decide +kernel⟩
theorem zy_132 : plainName (z_mY 132).cls = true := by decide +kernel
theorem zw_795 : Cond.methodLink (z_mY 300).cls 61 (z_mY 132) ∈ z_TB := z_inT (i := 795) (by decide +kernel) (by decide +kernel)
theorem zw_796 : Cond.instanceMethod (z_mY 132) ∈ z_TB := z_inT (i := 796) (by decide +kernel) (by decide +kernel)
theorem zw_797 : Cond.selects (z_mY 132).cls (z_mY 132) (z_mY 132) ∈ z_TB := z_inT (i := 797) (by decide +kernel) (by decide +kernel)
theorem zcl_132 : z_cls[11]? = some ((z_mY 132).cls, TX11, 19) := rfl
theorem zc_258 : ∀ m, z_ce m 258 3 := fun _ => ⟨z_inT (i := 1644) (by decide +kernel) (by decide +kernel), by decide +kernel, by decide +kernel⟩
theorem zy_258 : plainName (z_mY 258).cls = true := by decide +kernel
theorem zw_1641 : Cond.methodLink (z_mY 300).cls 65 (z_mY 258) ∈ z_TB := z_inT (i := 1641) (by decide +kernel) (by decide +kernel)
theorem zw_1642 : Cond.instanceMethod (z_mY 258) ∈ z_TB := z_inT (i := 1642) (by decide +kernel) (by decide +kernel)
theorem zw_1643 : Cond.selects (z_mY 258).cls (z_mY 258) (z_mY 258) ∈ z_TB := z_inT (i := 1643) (by decide +kernel) (by decide +kernel)
theorem zcl_258 : z_cls[12]? = some ((z_mY 258).cls, TX12, 39) := rfl
theorem zc_133 : ∀ m, z_ce m 133 5 := fun _ => ⟨z_inT (i := 802) (by decide +kernel) (by decide +kernel), by decide +kernel, by decide +kernel⟩
theorem zy_133 : plainName (z_mY 133).cls = true := by decide +kernel
theorem zw_799 : Cond.methodLink (z_mY 300).cls 66 (z_mY 133) ∈ z_TB := z_inT (i := 799) (by decide +kernel) (by decide +kernel)
theorem zw_800 : Cond.instanceMethod (z_mY 133) ∈ z_TB := z_inT (i := 800) (by decide +kernel) (by decide +kernel)
theorem zw_801 : Cond.selects (z_mY 133).cls (z_mY 133) (z_mY 133) ∈ z_TB := z_inT (i := 801) (by decide +kernel) (by decide +kernel)
theorem zcl_133 : z_cls[11]? = some ((z_mY 133).cls, TX11, 19) := rfl
theorem zc_259 : ∀ m, z_ce m 259 5 := fun _ => ⟨z_inT (i := 1648) (by decide +kernel) (by decide +kernel), by decide +kernel, by decide +kernel⟩
theorem zy_259 : plainName (z_mY 259).cls = true := by decide +kernel
theorem zw_1645 : Cond.methodLink (z_mY 300).cls 69 (z_mY 259) ∈ z_TB := z_inT (i := 1645) (by decide +kernel) (by decide +kernel)
theorem zw_1646 : Cond.instanceMethod (z_mY 259) ∈ z_TB := z_inT (i := 1646) (by decide +kernel) (by decide +kernel)
theorem zw_1647 : Cond.selects (z_mY 259).cls (z_mY 259) (z_mY 259) ∈ z_TB := z_inT (i := 1647) (by decide +kernel) (by decide +kernel)
theorem zcl_259 : z_cls[12]? = some ((z_mY 259).cls, TX12, 39) := rfl
theorem zc_134 : ∀ m, z_ce m 134 2 := fun _ => ⟨z_inT (i := 808) (by decide +kernel) (by decide +kernel), by decide +kernel, by decide +kernel⟩
theorem zy_134 : plainName (z_mY 134).cls = true := by decide +kernel
theorem zw_805 : Cond.methodLink (z_mY 300).cls 70 (z_mY 134) ∈ z_TB := z_inT (i := 805) (by decide +kernel) (by decide +kernel)
theorem zw_806 : Cond.instanceMethod (z_mY 134) ∈ z_TB := z_inT (i := 806) (by decide +kernel) (by decide +kernel)
theorem zw_807 : Cond.selects (z_mY 134).cls (z_mY 134) (z_mY 134) ∈ z_TB := z_inT (i := 807) (by decide +kernel) (by decide +kernel)
theorem zcl_134 : z_cls[11]? = some ((z_mY 134).cls, TX11, 19) := rfl
theorem zc_260 : ∀ m, z_ce m 260 2 := fun _ => ⟨z_inT (i := 1652) (by decide +kernel) (by decide +kernel), by decide +kernel, by decide +kernel⟩
theorem zy_260 : plainName (z_mY 260).cls = true := by decide +kernel
theorem zw_1649 : Cond.methodLink (z_mY 300).cls 73 (z_mY 260) ∈ z_TB := z_inT (i := 1649) (by decide +kernel) (by decide +kernel)
theorem zw_1650 : Cond.instanceMethod (z_mY 260) ∈ z_TB := z_inT (i := 1650) (by decide +kernel) (by decide +kernel)
theorem zw_1651 : Cond.selects (z_mY 260).cls (z_mY 260) (z_mY 260) ∈ z_TB := z_inT (i := 1651) (by decide +kernel) (by decide +kernel)
theorem zcl_260 : z_cls[12]? = some ((z_mY 260).cls, TX12, 39) := rfl
theorem zc_135 : ∀ m, z_ce m 135 1 := fun _ => ⟨z_inT (i := 831) (by decide +kernel) (by decide +kernel), by decide +kernel, by decide +kernel⟩
theorem zy_135 : plainName (z_mY 135).cls = true := by decide +kernel
theorem zw_828 : Cond.methodLink (z_mY 300).cls 74 (z_mY 135) ∈ z_TB := z_inT (i := 828) (by decide +kernel) (by decide +kernel)
theorem zw_829 : Cond.instanceMethod (z_mY 135) ∈ z_TB := z_inT (i := 829) (by decide +kernel) (by decide +kernel)
theorem zw_830 : Cond.selects (z_mY 135).cls (z_mY 135) (z_mY 135) ∈ z_TB := z_inT (i := 830) (by decide +kernel) (by decide +kernel)
theorem zcl_135 : z_cls[11]? = some ((z_mY 135).cls, TX11, 19) := rfl
theorem zc_261 : ∀ m, z_ce m 261 1 := fun _ => ⟨z_inT (i := 1660) (by decide +kernel) (by decide +kernel), by decide +kernel, by decide +kernel⟩
theorem zy_261 : plainName (z_mY 261).cls = true := by decide +kernel
theorem zw_1657 : Cond.methodLink (z_mY 300).cls 77 (z_mY 261) ∈ z_TB := z_inT (i := 1657) (by decide +kernel) (by decide +kernel)
theorem zw_1658 : Cond.instanceMethod (z_mY 261) ∈ z_TB := z_inT (i := 1658) (by decide +kernel) (by decide +kernel)
theorem zw_1659 : Cond.selects (z_mY 261).cls (z_mY 261) (z_mY 261) ∈ z_TB := z_inT (i := 1659) (by decide +kernel) (by decide +kernel)
theorem zcl_261 : z_cls[12]? = some ((z_mY 261).cls, TX12, 39) := rfl
theorem zc_136 : ∀ m, z_ce m 136 1 := fun _ => ⟨z_inT (i := 840) (by decide +kernel) (by decide +kernel), by decide +kernel, by decide +kernel⟩
theorem zy_136 : plainName (z_mY 136).cls = true := by decide +kernel
theorem zw_837 : Cond.methodLink (z_mY 300).cls 78 (z_mY 136) ∈ z_TB := z_inT (i := 837) (by decide +kernel) (by decide +kernel)
theorem zw_838 : Cond.instanceMethod (z_mY 136) ∈ z_TB := z_inT (i := 838) (by decide +kernel) (by decide +kernel)
theorem zw_839 : Cond.selects (z_mY 136).cls (z_mY 136) (z_mY 136) ∈ z_TB := z_inT (i := 839) (by decide +kernel) (by decide +kernel)
theorem zcl_136 : z_cls[11]? = some ((z_mY 136).cls, TX11, 19) := rfl
theorem zc_262 : ∀ m, z_ce m 262 1 := fun _ => ⟨z_inT (i := 1672) (by decide +kernel) (by decide +kernel), by decide +kernel, by decide +kernel⟩
theorem zy_262 : plainName (z_mY 262).cls = true := by decide +kernel
theorem zw_1669 : Cond.methodLink (z_mY 300).cls 81 (z_mY 262) ∈ z_TB := z_inT (i := 1669) (by decide +kernel) (by decide +kernel)
theorem zw_1670 : Cond.instanceMethod (z_mY 262) ∈ z_TB := z_inT (i := 1670) (by decide +kernel) (by decide +kernel)
theorem zw_1671 : Cond.selects (z_mY 262).cls (z_mY 262) (z_mY 262) ∈ z_TB := z_inT (i := 1671) (by decide +kernel) (by decide +kernel)
theorem zcl_262 : z_cls[12]? = some ((z_mY 262).cls, TX12, 39) := rfl
theorem zc_137 : ∀ m, z_ce m 137 5 := fun _ => ⟨z_inT (i := 860) (by decide +kernel) (by decide +kernel), by decide +kernel, by decide +kernel⟩
theorem zy_137 : plainName (z_mY 137).cls = true := by decide +kernel
theorem zw_857 : Cond.methodLink (z_mY 300).cls 82 (z_mY 137) ∈ z_TB := z_inT (i := 857) (by decide +kernel) (by decide +kernel)
theorem zw_858 : Cond.instanceMethod (z_mY 137) ∈ z_TB := z_inT (i := 858) (by decide +kernel) (by decide +kernel)
theorem zw_859 : Cond.selects (z_mY 137).cls (z_mY 137) (z_mY 137) ∈ z_TB := z_inT (i := 859) (by decide +kernel) (by decide +kernel)
theorem zcl_137 : z_cls[11]? = some ((z_mY 137).cls, TX11, 19) := rfl
theorem zc_238 : ∀ m, z_ce m 238 5 := fun _ => ⟨z_inT (i := 1475) (by decide +kernel) (by decide +kernel), by decide +kernel, by decide +kernel⟩
theorem zy_238 : plainName (z_mY 238).cls = true := by decide +kernel
theorem zw_1472 : Cond.methodLink (z_mY 300).cls 85 (z_mY 238) ∈ z_TB := z_inT (i := 1472) (by decide +kernel) (by decide +kernel)
theorem zw_1473 : Cond.instanceMethod (z_mY 238) ∈ z_TB := z_inT (i := 1473) (by decide +kernel) (by decide +kernel)
theorem zw_1474 : Cond.selects (z_mY 238).cls (z_mY 238) (z_mY 238) ∈ z_TB := z_inT (i := 1474) (by decide +kernel) (by decide +kernel)
theorem zcl_238 : z_cls[12]? = some ((z_mY 238).cls, TX12, 39) := rfl
theorem zc_138 : ∀ m, z_ce m 138 1 := fun _ => ⟨z_inT (i := 887) (by decide +kernel) (by decide +kernel), by decide +kernel, by decide +kernel⟩
theorem zy_138 : plainName (z_mY 138).cls = true := by decide +kernel
theorem zw_884 : Cond.methodLink (z_mY 300).cls 86 (z_mY 138) ∈ z_TB := z_inT (i := 884) (by decide +kernel) (by decide +kernel)
theorem zw_885 : Cond.instanceMethod (z_mY 138) ∈ z_TB := z_inT (i := 885) (by decide +kernel) (by decide +kernel)
theorem zw_886 : Cond.selects (z_mY 138).cls (z_mY 138) (z_mY 138) ∈ z_TB := z_inT (i := 886) (by decide +kernel) (by decide +kernel)
theorem zcl_138 : z_cls[11]? = some ((z_mY 138).cls, TX11, 19) := rfl
theorem zc_239 : ∀ m, z_ce m 239 1 := fun _ => ⟨z_inT (i := 1539) (by decide +kernel) (by decide +kernel), by decide +kernel, by decide +kernel⟩
theorem zy_239 : plainName (z_mY 239).cls = true := by decide +kernel
theorem zw_1536 : Cond.methodLink (z_mY 300).cls 89 (z_mY 239) ∈ z_TB := z_inT (i := 1536) (by decide +kernel) (by decide +kernel)
theorem zw_1537 : Cond.instanceMethod (z_mY 239) ∈ z_TB := z_inT (i := 1537) (by decide +kernel) (by decide +kernel)
theorem zw_1538 : Cond.selects (z_mY 239).cls (z_mY 239) (z_mY 239) ∈ z_TB := z_inT (i := 1538) (by decide +kernel) (by decide +kernel)
theorem zcl_239 : z_cls[12]? = some ((z_mY 239).cls, TX12, 39) := rfl
theorem zc_139 : ∀ m, z_ce m 139 2 := fun _ => ⟨z_inT (i := 892) (by decide +kernel) (by decide +kernel), by decide +kernel, by decide +kernel⟩
theorem zy_139 : plainName (z_mY 139).cls = true := by decide +kernel
theorem zw_889 : Cond.methodLink (z_mY 300).cls 90 (z_mY 139) ∈ z_TB := z_inT (i := 889) (by decide +kernel) (by decide +kernel)
theorem zw_890 : Cond.instanceMethod (z_mY 139) ∈ z_TB := z_inT (i := 890) (by decide +kernel) (by decide +kernel)
theorem zw_891 : Cond.selects (z_mY 139).cls (z_mY 139) (z_mY 139) ∈ z_TB := z_inT (i := 891) (by decide +kernel) (by decide +kernel)
theorem zcl_139 : z_cls[11]? = some ((z_mY 139).cls, TX11, 19) := rfl
theorem zc_240 : ∀ m, z_ce m 240 2 := fun _ => ⟨z_inT (i := 1543) (by decide +kernel) (by decide +kernel), by decide +kernel, by decide +kernel⟩
theorem zy_240 : plainName (z_mY 240).cls = true := by decide +kernel
theorem zw_1540 : Cond.methodLink (z_mY 300).cls 93 (z_mY 240) ∈ z_TB := z_inT (i := 1540) (by decide +kernel) (by decide +kernel)
theorem zw_1541 : Cond.instanceMethod (z_mY 240) ∈ z_TB := z_inT (i := 1541) (by decide +kernel) (by decide +kernel)
theorem zw_1542 : Cond.selects (z_mY 240).cls (z_mY 240) (z_mY 240) ∈ z_TB := z_inT (i := 1542) (by decide +kernel) (by decide +kernel)
theorem zcl_240 : z_cls[12]? = some ((z_mY 240).cls, TX12, 39) := rfl
theorem zc_140 : ∀ m, z_ce m 140 2 := fun _ => ⟨z_inT (i := 897) (by decide +kernel) (by decide +kernel), by decide +kernel, by decide +kernel⟩
theorem zy_140 : plainName (z_mY 140).cls = true := by decide +kernel
theorem zw_894 : Cond.methodLink (z_mY 300).cls 94 (z_mY 140) ∈ z_TB := z_inT (i := 894) (by decide +kernel) (by decide +kernel)
theorem zw_895 : Cond.instanceMethod (z_mY 140) ∈ z_TB := z_inT (i := 895) (by decide +kernel) (by decide +kernel)
theorem zw_896 : Cond.selects (z_mY 140).cls (z_mY 140) (z_mY 140) ∈ z_TB := z_inT (i := 896) (by decide +kernel) (by decide +kernel)
theorem zcl_140 : z_cls[11]? = some ((z_mY 140).cls, TX11, 19) := rfl
theorem zc_241 : ∀ m, z_ce m 241 2 := fun _ => ⟨z_inT (i := 1547) (by decide +kernel) (by decide +kernel), by decide +kernel, by decide +kernel⟩
theorem zy_241 : plainName (z_mY 241).cls = true := by decide +kernel
theorem zw_1544 : Cond.methodLink (z_mY 300).cls 97 (z_mY 241) ∈ z_TB := z_inT (i := 1544) (by decide +kernel) (by decide +kernel)
theorem zw_1545 : Cond.instanceMethod (z_mY 241) ∈ z_TB := z_inT (i := 1545) (by decide +kernel) (by decide +kernel)
theorem zw_1546 : Cond.selects (z_mY 241).cls (z_mY 241) (z_mY 241) ∈ z_TB := z_inT (i := 1546) (by decide +kernel) (by decide +kernel)
theorem zcl_241 : z_cls[12]? = some ((z_mY 241).cls, TX12, 39) := rfl
theorem zw_1820 : Cond.constantLong (z_mY 300).cls 98 (4294967295) ∈ z_TB := z_inT (i := 1820) (by decide +kernel) (by decide +kernel)
theorem zc_143 : ∀ m, z_ce m 143 2 := fun _ => ⟨z_inT (i := 902) (by decide +kernel) (by decide +kernel), by decide +kernel, by decide +kernel⟩
theorem zy_143 : plainName (z_mY 143).cls = true := by decide +kernel
theorem zw_899 : Cond.methodLink (z_mY 300).cls 100 (z_mY 143) ∈ z_TB := z_inT (i := 899) (by decide +kernel) (by decide +kernel)
theorem zw_900 : Cond.instanceMethod (z_mY 143) ∈ z_TB := z_inT (i := 900) (by decide +kernel) (by decide +kernel)
theorem zw_901 : Cond.selects (z_mY 143).cls (z_mY 143) (z_mY 143) ∈ z_TB := z_inT (i := 901) (by decide +kernel) (by decide +kernel)
theorem zcl_143 : z_cls[11]? = some ((z_mY 143).cls, TX11, 19) := rfl
theorem zc_246 : ∀ m, z_ce m 246 2 := fun _ => ⟨z_inT (i := 1551) (by decide +kernel) (by decide +kernel), by decide +kernel, by decide +kernel⟩
theorem zy_246 : plainName (z_mY 246).cls = true := by decide +kernel
theorem zw_1548 : Cond.methodLink (z_mY 300).cls 104 (z_mY 246) ∈ z_TB := z_inT (i := 1548) (by decide +kernel) (by decide +kernel)
theorem zw_1549 : Cond.instanceMethod (z_mY 246) ∈ z_TB := z_inT (i := 1549) (by decide +kernel) (by decide +kernel)
theorem zw_1550 : Cond.selects (z_mY 246).cls (z_mY 246) (z_mY 246) ∈ z_TB := z_inT (i := 1550) (by decide +kernel) (by decide +kernel)
theorem zcl_246 : z_cls[12]? = some ((z_mY 246).cls, TX12, 39) := rfl
theorem zc_146 : ∀ m, z_ce m 146 1 := fun _ => ⟨z_inT (i := 930) (by decide +kernel) (by decide +kernel), by decide +kernel, by decide +kernel⟩
theorem zy_146 : plainName (z_mY 146).cls = true := by decide +kernel
theorem zw_927 : Cond.methodLink (z_mY 300).cls 105 (z_mY 146) ∈ z_TB := z_inT (i := 927) (by decide +kernel) (by decide +kernel)
theorem zw_928 : Cond.instanceMethod (z_mY 146) ∈ z_TB := z_inT (i := 928) (by decide +kernel) (by decide +kernel)
theorem zw_929 : Cond.selects (z_mY 146).cls (z_mY 146) (z_mY 146) ∈ z_TB := z_inT (i := 929) (by decide +kernel) (by decide +kernel)
theorem zcl_146 : z_cls[11]? = some ((z_mY 146).cls, TX11, 19) := rfl
theorem zc_247 : ∀ m, z_ce m 247 1 := fun _ => ⟨z_inT (i := 1573) (by decide +kernel) (by decide +kernel), by decide +kernel, by decide +kernel⟩
theorem zy_247 : plainName (z_mY 247).cls = true := by decide +kernel
theorem zw_1570 : Cond.methodLink (z_mY 300).cls 108 (z_mY 247) ∈ z_TB := z_inT (i := 1570) (by decide +kernel) (by decide +kernel)
theorem zw_1571 : Cond.instanceMethod (z_mY 247) ∈ z_TB := z_inT (i := 1571) (by decide +kernel) (by decide +kernel)
theorem zw_1572 : Cond.selects (z_mY 247).cls (z_mY 247) (z_mY 247) ∈ z_TB := z_inT (i := 1572) (by decide +kernel) (by decide +kernel)
theorem zcl_247 : z_cls[12]? = some ((z_mY 247).cls, TX12, 39) := rfl
theorem zc_147 : ∀ m, z_ce m 147 0 := fun _ => ⟨z_inT (i := 934) (by decide +kernel) (by decide +kernel), by decide +kernel, by decide +kernel⟩
theorem zy_147 : plainName (z_mY 147).cls = true := by decide +kernel
theorem zw_931 : Cond.methodLink (z_mY 300).cls 109 (z_mY 147) ∈ z_TB := z_inT (i := 931) (by decide +kernel) (by decide +kernel)
theorem zw_932 : Cond.instanceMethod (z_mY 147) ∈ z_TB := z_inT (i := 932) (by decide +kernel) (by decide +kernel)
theorem zw_933 : Cond.selects (z_mY 147).cls (z_mY 147) (z_mY 147) ∈ z_TB := z_inT (i := 933) (by decide +kernel) (by decide +kernel)
theorem zcl_147 : z_cls[11]? = some ((z_mY 147).cls, TX11, 19) := rfl
theorem zc_248 : ∀ m, z_ce m 248 0 := fun _ => ⟨z_inT (i := 1577) (by decide +kernel) (by decide +kernel), by decide +kernel, by decide +kernel⟩
theorem zy_248 : plainName (z_mY 248).cls = true := by decide +kernel
theorem zw_1574 : Cond.methodLink (z_mY 300).cls 113 (z_mY 248) ∈ z_TB := z_inT (i := 1574) (by decide +kernel) (by decide +kernel)
theorem zw_1575 : Cond.instanceMethod (z_mY 248) ∈ z_TB := z_inT (i := 1575) (by decide +kernel) (by decide +kernel)
theorem zw_1576 : Cond.selects (z_mY 248).cls (z_mY 248) (z_mY 248) ∈ z_TB := z_inT (i := 1576) (by decide +kernel) (by decide +kernel)
theorem zcl_248 : z_cls[12]? = some ((z_mY 248).cls, TX12, 39) := rfl
theorem zc_148 : ∀ m, z_ce m 148 2 := fun _ => ⟨z_inT (i := 948) (by decide +kernel) (by decide +kernel), by decide +kernel, by decide +kernel⟩
theorem zy_148 : plainName (z_mY 148).cls = true := by decide +kernel
theorem zw_945 : Cond.methodLink (z_mY 300).cls 114 (z_mY 148) ∈ z_TB := z_inT (i := 945) (by decide +kernel) (by decide +kernel)
theorem zw_946 : Cond.instanceMethod (z_mY 148) ∈ z_TB := z_inT (i := 946) (by decide +kernel) (by decide +kernel)
theorem zw_947 : Cond.selects (z_mY 148).cls (z_mY 148) (z_mY 148) ∈ z_TB := z_inT (i := 947) (by decide +kernel) (by decide +kernel)
theorem zcl_148 : z_cls[11]? = some ((z_mY 148).cls, TX11, 19) := rfl
theorem zc_249 : ∀ m, z_ce m 249 2 := fun _ => ⟨z_inT (i := 1581) (by decide +kernel) (by decide +kernel), by decide +kernel, by decide +kernel⟩
theorem zy_249 : plainName (z_mY 249).cls = true := by decide +kernel
theorem zw_1578 : Cond.methodLink (z_mY 300).cls 117 (z_mY 249) ∈ z_TB := z_inT (i := 1578) (by decide +kernel) (by decide +kernel)
theorem zw_1579 : Cond.instanceMethod (z_mY 249) ∈ z_TB := z_inT (i := 1579) (by decide +kernel) (by decide +kernel)
theorem zw_1580 : Cond.selects (z_mY 249).cls (z_mY 249) (z_mY 249) ∈ z_TB := z_inT (i := 1580) (by decide +kernel) (by decide +kernel)
theorem zcl_249 : z_cls[12]? = some ((z_mY 249).cls, TX12, 39) := rfl
theorem zc_149 : ∀ m, z_ce m 149 0 := fun _ => ⟨z_inT (i := 962) (by decide +kernel) (by decide +kernel), by decide +kernel, by decide +kernel⟩
theorem zy_149 : plainName (z_mY 149).cls = true := by decide +kernel
theorem zw_959 : Cond.methodLink (z_mY 300).cls 118 (z_mY 149) ∈ z_TB := z_inT (i := 959) (by decide +kernel) (by decide +kernel)
theorem zw_960 : Cond.instanceMethod (z_mY 149) ∈ z_TB := z_inT (i := 960) (by decide +kernel) (by decide +kernel)
theorem zw_961 : Cond.selects (z_mY 149).cls (z_mY 149) (z_mY 149) ∈ z_TB := z_inT (i := 961) (by decide +kernel) (by decide +kernel)
theorem zcl_149 : z_cls[11]? = some ((z_mY 149).cls, TX11, 19) := rfl
theorem zc_264 : ∀ m, z_ce m 264 0 := fun _ => ⟨z_inT (i := 1687) (by decide +kernel) (by decide +kernel), by decide +kernel, by decide +kernel⟩
theorem zy_264 : plainName (z_mY 264).cls = true := by decide +kernel
theorem zw_1684 : Cond.methodLink (z_mY 300).cls 121 (z_mY 264) ∈ z_TB := z_inT (i := 1684) (by decide +kernel) (by decide +kernel)
theorem zw_1685 : Cond.instanceMethod (z_mY 264) ∈ z_TB := z_inT (i := 1685) (by decide +kernel) (by decide +kernel)
theorem zw_1686 : Cond.selects (z_mY 264).cls (z_mY 264) (z_mY 264) ∈ z_TB := z_inT (i := 1686) (by decide +kernel) (by decide +kernel)
theorem zcl_264 : z_cls[12]? = some ((z_mY 264).cls, TX12, 39) := rfl
theorem zc_150 : ∀ m, z_ce m 150 1 := fun _ => ⟨z_inT (i := 970) (by decide +kernel) (by decide +kernel), by decide +kernel, by decide +kernel⟩
theorem zy_150 : plainName (z_mY 150).cls = true := by decide +kernel
theorem zw_967 : Cond.methodLink (z_mY 300).cls 122 (z_mY 150) ∈ z_TB := z_inT (i := 967) (by decide +kernel) (by decide +kernel)
theorem zw_968 : Cond.instanceMethod (z_mY 150) ∈ z_TB := z_inT (i := 968) (by decide +kernel) (by decide +kernel)
theorem zw_969 : Cond.selects (z_mY 150).cls (z_mY 150) (z_mY 150) ∈ z_TB := z_inT (i := 969) (by decide +kernel) (by decide +kernel)
theorem zcl_150 : z_cls[11]? = some ((z_mY 150).cls, TX11, 19) := rfl
theorem zc_266 : ∀ m, z_ce m 266 1 := fun _ => ⟨z_inT (i := 1695) (by decide +kernel) (by decide +kernel), by decide +kernel, by decide +kernel⟩
theorem zy_266 : plainName (z_mY 266).cls = true := by decide +kernel
theorem zw_1692 : Cond.methodLink (z_mY 300).cls 125 (z_mY 266) ∈ z_TB := z_inT (i := 1692) (by decide +kernel) (by decide +kernel)
theorem zw_1693 : Cond.instanceMethod (z_mY 266) ∈ z_TB := z_inT (i := 1693) (by decide +kernel) (by decide +kernel)
theorem zw_1694 : Cond.selects (z_mY 266).cls (z_mY 266) (z_mY 266) ∈ z_TB := z_inT (i := 1694) (by decide +kernel) (by decide +kernel)
theorem zcl_266 : z_cls[12]? = some ((z_mY 266).cls, TX12, 39) := rfl
theorem zc_151 : ∀ m, z_ce m 151 2 := fun _ => ⟨z_inT (i := 992) (by decide +kernel) (by decide +kernel), by decide +kernel, by decide +kernel⟩
theorem zy_151 : plainName (z_mY 151).cls = true := by decide +kernel
theorem zw_989 : Cond.methodLink (z_mY 300).cls 126 (z_mY 151) ∈ z_TB := z_inT (i := 989) (by decide +kernel) (by decide +kernel)
theorem zw_990 : Cond.instanceMethod (z_mY 151) ∈ z_TB := z_inT (i := 990) (by decide +kernel) (by decide +kernel)
theorem zw_991 : Cond.selects (z_mY 151).cls (z_mY 151) (z_mY 151) ∈ z_TB := z_inT (i := 991) (by decide +kernel) (by decide +kernel)
theorem zcl_151 : z_cls[11]? = some ((z_mY 151).cls, TX11, 19) := rfl
theorem zc_270 : ∀ m, z_ce m 270 2 := fun _ => ⟨z_inT (i := 1715) (by decide +kernel) (by decide +kernel), by decide +kernel, by decide +kernel⟩
theorem zy_270 : plainName (z_mY 270).cls = true := by decide +kernel
theorem zw_1712 : Cond.methodLink (z_mY 300).cls 129 (z_mY 270) ∈ z_TB := z_inT (i := 1712) (by decide +kernel) (by decide +kernel)
theorem zw_1713 : Cond.instanceMethod (z_mY 270) ∈ z_TB := z_inT (i := 1713) (by decide +kernel) (by decide +kernel)
theorem zw_1714 : Cond.selects (z_mY 270).cls (z_mY 270) (z_mY 270) ∈ z_TB := z_inT (i := 1714) (by decide +kernel) (by decide +kernel)
theorem zcl_270 : z_cls[12]? = some ((z_mY 270).cls, TX12, 39) := rfl
theorem zc_152 : ∀ m, z_ce m 152 1 := fun _ => ⟨z_inT (i := 1017) (by decide +kernel) (by decide +kernel), by decide +kernel, by decide +kernel⟩
theorem zy_152 : plainName (z_mY 152).cls = true := by decide +kernel
theorem zw_1014 : Cond.methodLink (z_mY 300).cls 130 (z_mY 152) ∈ z_TB := z_inT (i := 1014) (by decide +kernel) (by decide +kernel)
theorem zw_1015 : Cond.instanceMethod (z_mY 152) ∈ z_TB := z_inT (i := 1015) (by decide +kernel) (by decide +kernel)
theorem zw_1016 : Cond.selects (z_mY 152).cls (z_mY 152) (z_mY 152) ∈ z_TB := z_inT (i := 1016) (by decide +kernel) (by decide +kernel)
theorem zcl_152 : z_cls[11]? = some ((z_mY 152).cls, TX11, 19) := rfl
theorem zc_271 : ∀ m, z_ce m 271 1 := fun _ => ⟨z_inT (i := 1731) (by decide +kernel) (by decide +kernel), by decide +kernel, by decide +kernel⟩
theorem zy_271 : plainName (z_mY 271).cls = true := by decide +kernel
theorem zw_1728 : Cond.methodLink (z_mY 300).cls 133 (z_mY 271) ∈ z_TB := z_inT (i := 1728) (by decide +kernel) (by decide +kernel)
theorem zw_1729 : Cond.instanceMethod (z_mY 271) ∈ z_TB := z_inT (i := 1729) (by decide +kernel) (by decide +kernel)
theorem zw_1730 : Cond.selects (z_mY 271).cls (z_mY 271) (z_mY 271) ∈ z_TB := z_inT (i := 1730) (by decide +kernel) (by decide +kernel)
theorem zcl_271 : z_cls[12]? = some ((z_mY 271).cls, TX12, 39) := rfl
theorem zc_153 : ∀ m, z_ce m 153 6 := fun _ => ⟨z_inT (i := 1029) (by decide +kernel) (by decide +kernel), by decide +kernel, by decide +kernel⟩
theorem zy_153 : plainName (z_mY 153).cls = true := by decide +kernel
theorem zw_1026 : Cond.methodLink (z_mY 300).cls 134 (z_mY 153) ∈ z_TB := z_inT (i := 1026) (by decide +kernel) (by decide +kernel)
theorem zw_1027 : Cond.instanceMethod (z_mY 153) ∈ z_TB := z_inT (i := 1027) (by decide +kernel) (by decide +kernel)
theorem zw_1028 : Cond.selects (z_mY 153).cls (z_mY 153) (z_mY 153) ∈ z_TB := z_inT (i := 1028) (by decide +kernel) (by decide +kernel)
theorem zcl_153 : z_cls[11]? = some ((z_mY 153).cls, TX11, 19) := rfl
theorem zc_274 : ∀ m, z_ce m 274 6 := fun _ => ⟨z_inT (i := 1735) (by decide +kernel) (by decide +kernel), by decide +kernel, by decide +kernel⟩
theorem zy_274 : plainName (z_mY 274).cls = true := by decide +kernel
theorem zw_1732 : Cond.methodLink (z_mY 300).cls 138 (z_mY 274) ∈ z_TB := z_inT (i := 1732) (by decide +kernel) (by decide +kernel)
theorem zw_1733 : Cond.instanceMethod (z_mY 274) ∈ z_TB := z_inT (i := 1733) (by decide +kernel) (by decide +kernel)
theorem zw_1734 : Cond.selects (z_mY 274).cls (z_mY 274) (z_mY 274) ∈ z_TB := z_inT (i := 1734) (by decide +kernel) (by decide +kernel)
theorem zcl_274 : z_cls[12]? = some ((z_mY 274).cls, TX12, 39) := rfl
theorem zc_154 : ∀ m, z_ce m 154 4 := fun _ => ⟨z_inT (i := 1037) (by decide +kernel) (by decide +kernel), by decide +kernel, by decide +kernel⟩
theorem zy_154 : plainName (z_mY 154).cls = true := by decide +kernel
theorem zw_1034 : Cond.methodLink (z_mY 300).cls 139 (z_mY 154) ∈ z_TB := z_inT (i := 1034) (by decide +kernel) (by decide +kernel)
theorem zw_1035 : Cond.instanceMethod (z_mY 154) ∈ z_TB := z_inT (i := 1035) (by decide +kernel) (by decide +kernel)
theorem zw_1036 : Cond.selects (z_mY 154).cls (z_mY 154) (z_mY 154) ∈ z_TB := z_inT (i := 1036) (by decide +kernel) (by decide +kernel)
theorem zcl_154 : z_cls[11]? = some ((z_mY 154).cls, TX11, 19) := rfl
theorem zc_275 : ∀ m, z_ce m 275 4 := fun _ => ⟨z_inT (i := 1747) (by decide +kernel) (by decide +kernel), by decide +kernel, by decide +kernel⟩
theorem zy_275 : plainName (z_mY 275).cls = true := by decide +kernel
theorem zw_1744 : Cond.methodLink (z_mY 300).cls 142 (z_mY 275) ∈ z_TB := z_inT (i := 1744) (by decide +kernel) (by decide +kernel)
theorem zw_1745 : Cond.instanceMethod (z_mY 275) ∈ z_TB := z_inT (i := 1745) (by decide +kernel) (by decide +kernel)
theorem zw_1746 : Cond.selects (z_mY 275).cls (z_mY 275) (z_mY 275) ∈ z_TB := z_inT (i := 1746) (by decide +kernel) (by decide +kernel)
theorem zcl_275 : z_cls[12]? = some ((z_mY 275).cls, TX12, 39) := rfl
theorem zc_155 : ∀ m, z_ce m 155 2 := fun _ => ⟨z_inT (i := 1042) (by decide +kernel) (by decide +kernel), by decide +kernel, by decide +kernel⟩
theorem zy_155 : plainName (z_mY 155).cls = true := by decide +kernel
theorem zw_1039 : Cond.methodLink (z_mY 300).cls 143 (z_mY 155) ∈ z_TB := z_inT (i := 1039) (by decide +kernel) (by decide +kernel)
theorem zw_1040 : Cond.instanceMethod (z_mY 155) ∈ z_TB := z_inT (i := 1040) (by decide +kernel) (by decide +kernel)
theorem zw_1041 : Cond.selects (z_mY 155).cls (z_mY 155) (z_mY 155) ∈ z_TB := z_inT (i := 1041) (by decide +kernel) (by decide +kernel)
theorem zcl_155 : z_cls[11]? = some ((z_mY 155).cls, TX11, 19) := rfl
theorem zc_276 : ∀ m, z_ce m 276 2 := fun _ => ⟨z_inT (i := 1751) (by decide +kernel) (by decide +kernel), by decide +kernel, by decide +kernel⟩
theorem zy_276 : plainName (z_mY 276).cls = true := by decide +kernel
theorem zw_1748 : Cond.methodLink (z_mY 300).cls 146 (z_mY 276) ∈ z_TB := z_inT (i := 1748) (by decide +kernel) (by decide +kernel)
theorem zw_1749 : Cond.instanceMethod (z_mY 276) ∈ z_TB := z_inT (i := 1749) (by decide +kernel) (by decide +kernel)
theorem zw_1750 : Cond.selects (z_mY 276).cls (z_mY 276) (z_mY 276) ∈ z_TB := z_inT (i := 1750) (by decide +kernel) (by decide +kernel)
theorem zcl_276 : z_cls[12]? = some ((z_mY 276).cls, TX12, 39) := rfl
theorem zc_156 : ∀ m, z_ce m 156 2 := fun _ => ⟨z_inT (i := 1050) (by decide +kernel) (by decide +kernel), by decide +kernel, by decide +kernel⟩
theorem zy_156 : plainName (z_mY 156).cls = true := by decide +kernel
theorem zw_1047 : Cond.methodLink (z_mY 300).cls 147 (z_mY 156) ∈ z_TB := z_inT (i := 1047) (by decide +kernel) (by decide +kernel)
theorem zw_1048 : Cond.instanceMethod (z_mY 156) ∈ z_TB := z_inT (i := 1048) (by decide +kernel) (by decide +kernel)
theorem zw_1049 : Cond.selects (z_mY 156).cls (z_mY 156) (z_mY 156) ∈ z_TB := z_inT (i := 1049) (by decide +kernel) (by decide +kernel)
theorem zcl_156 : z_cls[11]? = some ((z_mY 156).cls, TX11, 19) := rfl
theorem zc_277 : ∀ m, z_ce m 277 2 := fun _ => ⟨z_inT (i := 1755) (by decide +kernel) (by decide +kernel), by decide +kernel, by decide +kernel⟩
theorem zy_277 : plainName (z_mY 277).cls = true := by decide +kernel
theorem zw_1752 : Cond.methodLink (z_mY 300).cls 150 (z_mY 277) ∈ z_TB := z_inT (i := 1752) (by decide +kernel) (by decide +kernel)
theorem zw_1753 : Cond.instanceMethod (z_mY 277) ∈ z_TB := z_inT (i := 1753) (by decide +kernel) (by decide +kernel)
theorem zw_1754 : Cond.selects (z_mY 277).cls (z_mY 277) (z_mY 277) ∈ z_TB := z_inT (i := 1754) (by decide +kernel) (by decide +kernel)
theorem zcl_277 : z_cls[12]? = some ((z_mY 277).cls, TX12, 39) := rfl
theorem zc_157 : ∀ m, z_ce m 157 3 := fun _ => ⟨z_inT (i := 1054) (by decide +kernel) (by decide +kernel), by decide +kernel, by decide +kernel⟩
theorem zy_157 : plainName (z_mY 157).cls = true := by decide +kernel
theorem zw_1051 : Cond.methodLink (z_mY 300).cls 151 (z_mY 157) ∈ z_TB := z_inT (i := 1051) (by decide +kernel) (by decide +kernel)
theorem zw_1052 : Cond.instanceMethod (z_mY 157) ∈ z_TB := z_inT (i := 1052) (by decide +kernel) (by decide +kernel)
theorem zw_1053 : Cond.selects (z_mY 157).cls (z_mY 157) (z_mY 157) ∈ z_TB := z_inT (i := 1053) (by decide +kernel) (by decide +kernel)
theorem zcl_157 : z_cls[11]? = some ((z_mY 157).cls, TX11, 19) := rfl
theorem zc_279 : ∀ m, z_ce m 279 3 := fun _ => ⟨z_inT (i := 1759) (by decide +kernel) (by decide +kernel), by decide +kernel, by decide +kernel⟩
theorem zy_279 : plainName (z_mY 279).cls = true := by decide +kernel
theorem zw_1756 : Cond.methodLink (z_mY 300).cls 154 (z_mY 279) ∈ z_TB := z_inT (i := 1756) (by decide +kernel) (by decide +kernel)
theorem zw_1757 : Cond.instanceMethod (z_mY 279) ∈ z_TB := z_inT (i := 1757) (by decide +kernel) (by decide +kernel)
theorem zw_1758 : Cond.selects (z_mY 279).cls (z_mY 279) (z_mY 279) ∈ z_TB := z_inT (i := 1758) (by decide +kernel) (by decide +kernel)
theorem zcl_279 : z_cls[12]? = some ((z_mY 279).cls, TX12, 39) := rfl
theorem zc_158 : ∀ m, z_ce m 158 2 := fun _ => ⟨z_inT (i := 1068) (by decide +kernel) (by decide +kernel), by decide +kernel, by decide +kernel⟩
theorem zy_158 : plainName (z_mY 158).cls = true := by decide +kernel
theorem zw_1065 : Cond.methodLink (z_mY 300).cls 155 (z_mY 158) ∈ z_TB := z_inT (i := 1065) (by decide +kernel) (by decide +kernel)
theorem zw_1066 : Cond.instanceMethod (z_mY 158) ∈ z_TB := z_inT (i := 1066) (by decide +kernel) (by decide +kernel)
theorem zw_1067 : Cond.selects (z_mY 158).cls (z_mY 158) (z_mY 158) ∈ z_TB := z_inT (i := 1067) (by decide +kernel) (by decide +kernel)
theorem zcl_158 : z_cls[11]? = some ((z_mY 158).cls, TX11, 19) := rfl
theorem zc_281 : ∀ m, z_ce m 281 2 := fun _ => ⟨z_inT (i := 1767) (by decide +kernel) (by decide +kernel), by decide +kernel, by decide +kernel⟩
theorem zy_281 : plainName (z_mY 281).cls = true := by decide +kernel
theorem zw_1764 : Cond.methodLink (z_mY 300).cls 158 (z_mY 281) ∈ z_TB := z_inT (i := 1764) (by decide +kernel) (by decide +kernel)
theorem zw_1765 : Cond.instanceMethod (z_mY 281) ∈ z_TB := z_inT (i := 1765) (by decide +kernel) (by decide +kernel)
theorem zw_1766 : Cond.selects (z_mY 281).cls (z_mY 281) (z_mY 281) ∈ z_TB := z_inT (i := 1766) (by decide +kernel) (by decide +kernel)
theorem zcl_281 : z_cls[12]? = some ((z_mY 281).cls, TX12, 39) := rfl
theorem zc_159 : ∀ m, z_ce m 159 1 := fun _ => ⟨z_inT (i := 1081) (by decide +kernel) (by decide +kernel), by decide +kernel, by decide +kernel⟩
theorem zy_159 : plainName (z_mY 159).cls = true := by decide +kernel
theorem zw_1078 : Cond.methodLink (z_mY 300).cls 159 (z_mY 159) ∈ z_TB := z_inT (i := 1078) (by decide +kernel) (by decide +kernel)
theorem zw_1079 : Cond.instanceMethod (z_mY 159) ∈ z_TB := z_inT (i := 1079) (by decide +kernel) (by decide +kernel)
theorem zw_1080 : Cond.selects (z_mY 159).cls (z_mY 159) (z_mY 159) ∈ z_TB := z_inT (i := 1080) (by decide +kernel) (by decide +kernel)
theorem zcl_159 : z_cls[11]? = some ((z_mY 159).cls, TX11, 19) := rfl
theorem zc_282 : ∀ m, z_ce m 282 1 := fun _ => ⟨z_inT (i := 1775) (by decide +kernel) (by decide +kernel), by decide +kernel, by decide +kernel⟩
theorem zy_282 : plainName (z_mY 282).cls = true := by decide +kernel
theorem zw_1772 : Cond.methodLink (z_mY 300).cls 162 (z_mY 282) ∈ z_TB := z_inT (i := 1772) (by decide +kernel) (by decide +kernel)
theorem zw_1773 : Cond.instanceMethod (z_mY 282) ∈ z_TB := z_inT (i := 1773) (by decide +kernel) (by decide +kernel)
theorem zw_1774 : Cond.selects (z_mY 282).cls (z_mY 282) (z_mY 282) ∈ z_TB := z_inT (i := 1774) (by decide +kernel) (by decide +kernel)
theorem zcl_282 : z_cls[12]? = some ((z_mY 282).cls, TX12, 39) := rfl
theorem zc_162 : ∀ m, z_ce m 162 1 := fun _ => ⟨z_inT (i := 1085) (by decide +kernel) (by decide +kernel), by decide +kernel, by decide +kernel⟩
theorem zy_162 : plainName (z_mY 162).cls = true := by decide +kernel
theorem zw_1082 : Cond.methodLink (z_mY 300).cls 163 (z_mY 162) ∈ z_TB := z_inT (i := 1082) (by decide +kernel) (by decide +kernel)
theorem zw_1083 : Cond.instanceMethod (z_mY 162) ∈ z_TB := z_inT (i := 1083) (by decide +kernel) (by decide +kernel)
theorem zw_1084 : Cond.selects (z_mY 162).cls (z_mY 162) (z_mY 162) ∈ z_TB := z_inT (i := 1084) (by decide +kernel) (by decide +kernel)
theorem zcl_162 : z_cls[11]? = some ((z_mY 162).cls, TX11, 19) := rfl
theorem zc_290 : ∀ m, z_ce m 290 1 := fun _ => ⟨z_inT (i := 1779) (by decide +kernel) (by decide +kernel), by decide +kernel, by decide +kernel⟩
theorem zy_290 : plainName (z_mY 290).cls = true := by decide +kernel
theorem zw_1776 : Cond.methodLink (z_mY 300).cls 166 (z_mY 290) ∈ z_TB := z_inT (i := 1776) (by decide +kernel) (by decide +kernel)
theorem zw_1777 : Cond.instanceMethod (z_mY 290) ∈ z_TB := z_inT (i := 1777) (by decide +kernel) (by decide +kernel)
theorem zw_1778 : Cond.selects (z_mY 290).cls (z_mY 290) (z_mY 290) ∈ z_TB := z_inT (i := 1778) (by decide +kernel) (by decide +kernel)
theorem zcl_290 : z_cls[12]? = some ((z_mY 290).cls, TX12, 39) := rfl
theorem zc_163 : ∀ m, z_ce m 163 0 := fun _ => ⟨z_inT (i := 1116) (by decide +kernel) (by decide +kernel), by decide +kernel, by decide +kernel⟩
theorem zy_163 : plainName (z_mY 163).cls = true := by decide +kernel
theorem zw_1113 : Cond.methodLink (z_mY 300).cls 167 (z_mY 163) ∈ z_TB := z_inT (i := 1113) (by decide +kernel) (by decide +kernel)
theorem zw_1114 : Cond.instanceMethod (z_mY 163) ∈ z_TB := z_inT (i := 1114) (by decide +kernel) (by decide +kernel)
theorem zw_1115 : Cond.selects (z_mY 163).cls (z_mY 163) (z_mY 163) ∈ z_TB := z_inT (i := 1115) (by decide +kernel) (by decide +kernel)
theorem zcl_163 : z_cls[11]? = some ((z_mY 163).cls, TX11, 19) := rfl
theorem zc_291 : ∀ m, z_ce m 291 0 := fun _ => ⟨z_inT (i := 1811) (by decide +kernel) (by decide +kernel), by decide +kernel, by decide +kernel⟩
theorem zy_291 : plainName (z_mY 291).cls = true := by decide +kernel
theorem zw_1808 : Cond.methodLink (z_mY 300).cls 170 (z_mY 291) ∈ z_TB := z_inT (i := 1808) (by decide +kernel) (by decide +kernel)
theorem zw_1809 : Cond.instanceMethod (z_mY 291) ∈ z_TB := z_inT (i := 1809) (by decide +kernel) (by decide +kernel)
theorem zw_1810 : Cond.selects (z_mY 291).cls (z_mY 291) (z_mY 291) ∈ z_TB := z_inT (i := 1810) (by decide +kernel) (by decide +kernel)
theorem zcl_291 : z_cls[12]? = some ((z_mY 291).cls, TX12, 39) := rfl
theorem zc_164 : ∀ m, z_ce m 164 0 := fun _ => ⟨z_inT (i := 1125) (by decide +kernel) (by decide +kernel), by decide +kernel, by decide +kernel⟩
theorem zy_164 : plainName (z_mY 164).cls = true := by decide +kernel
theorem zw_1122 : Cond.methodLink (z_mY 300).cls 171 (z_mY 164) ∈ z_TB := z_inT (i := 1122) (by decide +kernel) (by decide +kernel)
theorem zw_1123 : Cond.instanceMethod (z_mY 164) ∈ z_TB := z_inT (i := 1123) (by decide +kernel) (by decide +kernel)
theorem zw_1124 : Cond.selects (z_mY 164).cls (z_mY 164) (z_mY 164) ∈ z_TB := z_inT (i := 1124) (by decide +kernel) (by decide +kernel)
theorem zcl_164 : z_cls[11]? = some ((z_mY 164).cls, TX11, 19) := rfl
theorem zc_292 : ∀ m, z_ce m 292 0 := fun _ => ⟨z_inT (i := 1815) (by decide +kernel) (by decide +kernel), by decide +kernel, by decide +kernel⟩
theorem zy_292 : plainName (z_mY 292).cls = true := by decide +kernel
theorem zw_1812 : Cond.methodLink (z_mY 300).cls 174 (z_mY 292) ∈ z_TB := z_inT (i := 1812) (by decide +kernel) (by decide +kernel)
theorem zw_1813 : Cond.instanceMethod (z_mY 292) ∈ z_TB := z_inT (i := 1813) (by decide +kernel) (by decide +kernel)
theorem zw_1814 : Cond.selects (z_mY 292).cls (z_mY 292) (z_mY 292) ∈ z_TB := z_inT (i := 1814) (by decide +kernel) (by decide +kernel)
theorem zcl_292 : z_cls[12]? = some ((z_mY 292).cls, TX12, 39) := rfl
theorem zc_165 : ∀ m, z_ce m 165 1 := fun _ => ⟨z_inT (i := 1129) (by decide +kernel) (by decide +kernel), by decide +kernel, by decide +kernel⟩
theorem zy_165 : plainName (z_mY 165).cls = true := by decide +kernel
theorem zw_1126 : Cond.methodLink (z_mY 300).cls 175 (z_mY 165) ∈ z_TB := z_inT (i := 1126) (by decide +kernel) (by decide +kernel)
theorem zw_1127 : Cond.instanceMethod (z_mY 165) ∈ z_TB := z_inT (i := 1127) (by decide +kernel) (by decide +kernel)
theorem zw_1128 : Cond.selects (z_mY 165).cls (z_mY 165) (z_mY 165) ∈ z_TB := z_inT (i := 1128) (by decide +kernel) (by decide +kernel)
theorem zcl_165 : z_cls[11]? = some ((z_mY 165).cls, TX11, 19) := rfl
theorem zc_293 : ∀ m, z_ce m 293 1 := fun _ => ⟨z_inT (i := 1819) (by decide +kernel) (by decide +kernel), by decide +kernel, by decide +kernel⟩
theorem zy_293 : plainName (z_mY 293).cls = true := by decide +kernel
theorem zw_1816 : Cond.methodLink (z_mY 300).cls 178 (z_mY 293) ∈ z_TB := z_inT (i := 1816) (by decide +kernel) (by decide +kernel)
theorem zw_1817 : Cond.instanceMethod (z_mY 293) ∈ z_TB := z_inT (i := 1817) (by decide +kernel) (by decide +kernel)
theorem zw_1818 : Cond.selects (z_mY 293).cls (z_mY 293) (z_mY 293) ∈ z_TB := z_inT (i := 1818) (by decide +kernel) (by decide +kernel)
theorem zcl_293 : z_cls[12]? = some ((z_mY 293).cls, TX12, 39) := rfl
