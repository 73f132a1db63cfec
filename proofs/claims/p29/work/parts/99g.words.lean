/-! ### words of the law: four calls more -/
set_option maxRecDepth 100000 in
theorem cw_L_131 (M : nM) (h : mOwn M = RL) : cxS M 131 mL_takes 6 := ⟨by rw [h]; exact wOK_1 674 (by decide +kernel) (by decide +kernel), wOK_1 675 (by decide +kernel) (by decide +kernel), cb_L_takes⟩
set_option maxRecDepth 100000 in
theorem cw_L_135 (M : nM) (h : mOwn M = RL) : cxS M 135 mL_isInside 4 := ⟨by rw [h]; exact wOK_1 685 (by decide +kernel) (by decide +kernel), wOK_1 686 (by decide +kernel) (by decide +kernel), cb_L_isInside⟩
set_option maxRecDepth 100000 in
theorem cw_L_142 (M : nM) (h : mOwn M = RL) : cxS M 142 mL_isMounted 2 := ⟨by rw [h]; exact wOK_1 939 (by decide +kernel) (by decide +kernel), wOK_1 940 (by decide +kernel) (by decide +kernel), cb_L_isMounted⟩
set_option maxRecDepth 100000 in
theorem cw_L_154 (M : nM) (h : mOwn M = RL) : cxS M 154 mL_lays 4 := ⟨by rw [h]; exact wOK_1 680 (by decide +kernel) (by decide +kernel), wOK_1 681 (by decide +kernel) (by decide +kernel), cb_L_lays⟩
