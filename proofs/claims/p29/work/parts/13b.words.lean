abbrev mL_does : nM := (RL, cL_does, 6, some .int, 10, 185, yL_does)
set_option maxRecDepth 100000 in
theorem cw_L_85 (M : nM) (h : mOwn M = RL) : cxW M 85 mL_does [(0, 133, 134, 55), (0, 133, 139, 57), (0, 133, 144, 59)] 5 := ⟨by rw [h]; exact wOK_1 688 (by decide +kernel) (by decide +kernel), wOK_1 689 (by decide +kernel) (by decide +kernel), wOK_1 38 (by decide +kernel) (by decide +kernel), wOK_1 690 (by decide +kernel) (by decide +kernel), by decide +kernel, by decide +kernel⟩
abbrev mL_renames : nM := (RL, cL_renames, 6, some .int, 10, 182, yL_renames)
set_option maxRecDepth 100000 in
theorem cw_L_139 (M : nM) (h : mOwn M = RL) : cxW M 139 mL_renames [(0, 9, 10, 55), (0, 9, 15, 57), (0, 9, 20, 59)] 5 := ⟨by rw [h]; exact wOK_1 870 (by decide +kernel) (by decide +kernel), wOK_1 871 (by decide +kernel) (by decide +kernel), wOK_1 38 (by decide +kernel) (by decide +kernel), wOK_1 872 (by decide +kernel) (by decide +kernel), by decide +kernel, by decide +kernel⟩
abbrev mL_writes : nM := (RL, cL_writes, 7, some .int, 10, 180, yL_writes)
set_option maxRecDepth 100000 in
theorem cw_L_150 (M : nM) (h : mOwn M = RL) : cxW M 150 mL_writes [(0, 9, 10, 55), (0, 9, 15, 57), (0, 9, 20, 59)] 5 := ⟨by rw [h]; exact wOK_1 892 (by decide +kernel) (by decide +kernel), wOK_1 893 (by decide +kernel) (by decide +kernel), wOK_1 38 (by decide +kernel) (by decide +kernel), wOK_1 894 (by decide +kernel) (by decide +kernel), by decide +kernel, by decide +kernel⟩
set_option maxRecDepth 100000 in
theorem kx_55 : wOK (.classLink RL 55 "java/lang/IndexOutOfBoundsException") ∧ Cond.castable "java/lang/IndexOutOfBoundsException" "java/lang/IndexOutOfBoundsException" ∈ lw_tbl := ⟨wOK_1 691 (by decide +kernel) (by decide +kernel), List.mem_of_getElem? (i := 582) (by decide +kernel)⟩
set_option maxRecDepth 100000 in
theorem kx_57 : wOK (.classLink RL 57 "java/lang/IllegalArgumentException") ∧ Cond.castable "java/lang/IllegalArgumentException" "java/lang/IllegalArgumentException" ∈ lw_tbl := ⟨wOK_1 692 (by decide +kernel) (by decide +kernel), List.mem_of_getElem? (i := 334) (by decide +kernel)⟩
set_option maxRecDepth 100000 in
theorem kx_59 : wOK (.classLink RL 59 "java/lang/IllegalStateException") ∧ Cond.castable "java/lang/IllegalStateException" "java/lang/IllegalStateException" ∈ lw_tbl := ⟨wOK_1 693 (by decide +kernel) (by decide +kernel), List.mem_of_getElem? (i := 565) (by decide +kernel)⟩
