abbrev mL_create : nM := (RL, cL_create, 5, some .int, 10, 179, yL_create)
set_option maxRecDepth 100000 in
theorem cw_L_98 (M : nM) (h : mOwn M = RL) : cxW M 98 mL_create [(0, 10, 13, 13), (0, 10, 17, 15), (0, 10, 21, 17)] 4 := ⟨by rw [h]; exact wOK_1 525 (by decide +kernel) (by decide +kernel), wOK_1 526 (by decide +kernel) (by decide +kernel), wOK_1 84 (by decide +kernel) (by decide +kernel), wOK_1 527 (by decide +kernel) (by decide +kernel), by decide +kernel, by decide +kernel⟩
abbrev mL_makeDirectory : nM := (RL, cL_makeDirectory, 5, some .int, 10, 178, yL_makeDirectory)
set_option maxRecDepth 100000 in
theorem cw_L_108 (M : nM) (h : mOwn M = RL) : cxW M 108 mL_makeDirectory [(0, 10, 13, 13), (0, 10, 17, 15), (0, 10, 21, 17)] 4 := ⟨by rw [h]; exact wOK_1 715 (by decide +kernel) (by decide +kernel), wOK_1 716 (by decide +kernel) (by decide +kernel), wOK_1 84 (by decide +kernel) (by decide +kernel), wOK_1 717 (by decide +kernel) (by decide +kernel), by decide +kernel, by decide +kernel⟩
abbrev mL_link : nM := (RL, cL_link, 6, some .int, 10, 179, yL_link)
set_option maxRecDepth 100000 in
theorem cw_L_111 (M : nM) (h : mOwn M = RL) : cxW M 111 mL_link [(0, 12, 15, 13), (0, 12, 19, 15), (0, 12, 23, 17)] 5 := ⟨by rw [h]; exact wOK_1 722 (by decide +kernel) (by decide +kernel), wOK_1 723 (by decide +kernel) (by decide +kernel), wOK_1 84 (by decide +kernel) (by decide +kernel), wOK_1 724 (by decide +kernel) (by decide +kernel), by decide +kernel, by decide +kernel⟩
abbrev mL_unlink : nM := (RL, cL_unlink, 5, some .int, 10, 179, yL_unlink)
set_option maxRecDepth 100000 in
theorem cw_L_115 (M : nM) (h : mOwn M = RL) : cxW M 115 mL_unlink [(0, 10, 13, 13), (0, 10, 17, 15), (0, 10, 21, 17)] 4 := ⟨by rw [h]; exact wOK_1 734 (by decide +kernel) (by decide +kernel), wOK_1 735 (by decide +kernel) (by decide +kernel), wOK_1 84 (by decide +kernel) (by decide +kernel), wOK_1 736 (by decide +kernel) (by decide +kernel), by decide +kernel, by decide +kernel⟩
abbrev mL_rename : nM := (RL, cL_rename, 7, some .int, 10, 182, yL_rename)
set_option maxRecDepth 100000 in
theorem cw_L_118 (M : nM) (h : mOwn M = RL) : cxW M 118 mL_rename [(0, 14, 17, 13), (0, 14, 21, 15), (0, 14, 25, 17)] 6 := ⟨by rw [h]; exact wOK_1 747 (by decide +kernel) (by decide +kernel), wOK_1 748 (by decide +kernel) (by decide +kernel), wOK_1 84 (by decide +kernel) (by decide +kernel), wOK_1 749 (by decide +kernel) (by decide +kernel), by decide +kernel, by decide +kernel⟩
abbrev mL_write : nM := (RL, cL_write, 8, some .int, 10, 180, yL_write)
set_option maxRecDepth 100000 in
theorem cw_L_124 (M : nM) (h : mOwn M = RL) : cxW M 124 mL_write [(0, 14, 17, 13), (0, 14, 21, 15), (0, 14, 25, 17)] 6 := ⟨by rw [h]; exact wOK_1 769 (by decide +kernel) (by decide +kernel), wOK_1 770 (by decide +kernel) (by decide +kernel), wOK_1 84 (by decide +kernel) (by decide +kernel), wOK_1 771 (by decide +kernel) (by decide +kernel), by decide +kernel, by decide +kernel⟩
abbrev mL_truncate : nM := (RL, cL_truncate, 5, some .int, 10, 178, yL_truncate)
set_option maxRecDepth 100000 in
theorem cw_L_128 (M : nM) (h : mOwn M = RL) : cxW M 128 mL_truncate [(0, 10, 13, 13), (0, 10, 17, 15), (0, 10, 21, 17)] 4 := ⟨by rw [h]; exact wOK_1 788 (by decide +kernel) (by decide +kernel), wOK_1 789 (by decide +kernel) (by decide +kernel), wOK_1 84 (by decide +kernel) (by decide +kernel), wOK_1 790 (by decide +kernel) (by decide +kernel), by decide +kernel, by decide +kernel⟩
abbrev mL_collect : nM := (RL, cL_collect, 4, some .int, 8, 185, yL_collect)
set_option maxRecDepth 100000 in
theorem cw_L_131 (M : nM) (h : mOwn M = RL) : cxW M 131 mL_collect [(0, 9, 12, 15), (0, 9, 15, 17)] 3 := ⟨by rw [h]; exact wOK_1 796 (by decide +kernel) (by decide +kernel), wOK_1 797 (by decide +kernel) (by decide +kernel), wOK_1 84 (by decide +kernel) (by decide +kernel), wOK_1 798 (by decide +kernel) (by decide +kernel), by decide +kernel, by decide +kernel⟩
abbrev mL_cut : nM := (RL, cL_cut, 4, some .int, 7, 112, yL_cut)
set_option maxRecDepth 100000 in
theorem cw_L_135 (M : nM) (h : mOwn M = RL) : cxW M 135 mL_cut [(0, 9, 12, 15)] 3 := ⟨by rw [h]; exact wOK_1 899 (by decide +kernel) (by decide +kernel), wOK_1 900 (by decide +kernel) (by decide +kernel), wOK_1 84 (by decide +kernel) (by decide +kernel), wOK_1 901 (by decide +kernel) (by decide +kernel), by decide +kernel, by decide +kernel⟩
abbrev mL_lookUp : nM := (RL, cL_lookUp, 5, some .int, 10, 178, yL_lookUp)
set_option maxRecDepth 100000 in
theorem cw_L_148 (M : nM) (h : mOwn M = RL) : cxW M 148 mL_lookUp [(0, 10, 13, 13), (0, 10, 17, 15), (0, 10, 21, 17)] 4 := ⟨by rw [h]; exact wOK_1 907 (by decide +kernel) (by decide +kernel), wOK_1 908 (by decide +kernel) (by decide +kernel), wOK_1 84 (by decide +kernel) (by decide +kernel), wOK_1 909 (by decide +kernel) (by decide +kernel), by decide +kernel, by decide +kernel⟩
abbrev mL_names : nM := (RL, cL_names, 4, some .int, 10, 175, yL_names)
set_option maxRecDepth 100000 in
theorem cw_L_151 (M : nM) (h : mOwn M = RL) : cxW M 151 mL_names [(0, 9, 12, 13), (0, 9, 15, 17)] 3 := ⟨by rw [h]; exact wOK_1 914 (by decide +kernel) (by decide +kernel), wOK_1 915 (by decide +kernel) (by decide +kernel), wOK_1 84 (by decide +kernel) (by decide +kernel), wOK_1 916 (by decide +kernel) (by decide +kernel), by decide +kernel, by decide +kernel⟩
abbrev mL_nameAt : nM := (RL, cL_nameAt, 5, some .int, 10, 177, yL_nameAt)
set_option maxRecDepth 100000 in
theorem cw_L_154 (M : nM) (h : mOwn M = RL) : cxW M 154 mL_nameAt [(0, 10, 13, 13), (0, 10, 17, 17)] 4 := ⟨by rw [h]; exact wOK_1 921 (by decide +kernel) (by decide +kernel), wOK_1 922 (by decide +kernel) (by decide +kernel), wOK_1 84 (by decide +kernel) (by decide +kernel), wOK_1 923 (by decide +kernel) (by decide +kernel), by decide +kernel, by decide +kernel⟩
abbrev mL_isDirectory : nM := (RL, cL_isDirectory, 4, some .int, 9, 153, yL_isDirectory)
set_option maxRecDepth 100000 in
theorem cw_L_157 (M : nM) (h : mOwn M = RL) : cxW M 157 mL_isDirectory [(0, 16, 19, 13), (0, 16, 22, 17)] 3 := ⟨by rw [h]; exact wOK_1 934 (by decide +kernel) (by decide +kernel), wOK_1 935 (by decide +kernel) (by decide +kernel), wOK_1 84 (by decide +kernel) (by decide +kernel), wOK_1 936 (by decide +kernel) (by decide +kernel), by decide +kernel, by decide +kernel⟩
abbrev mL_links : nM := (RL, cL_links, 4, some .int, 9, 153, yL_links)
set_option maxRecDepth 100000 in
theorem cw_L_160 (M : nM) (h : mOwn M = RL) : cxW M 160 mL_links [(0, 9, 12, 13), (0, 9, 15, 17)] 3 := ⟨by rw [h]; exact wOK_1 941 (by decide +kernel) (by decide +kernel), wOK_1 942 (by decide +kernel) (by decide +kernel), wOK_1 84 (by decide +kernel) (by decide +kernel), wOK_1 943 (by decide +kernel) (by decide +kernel), by decide +kernel, by decide +kernel⟩
abbrev mL_length : nM := (RL, cL_length, 4, some .int, 10, 175, yL_length)
set_option maxRecDepth 100000 in
theorem cw_L_163 (M : nM) (h : mOwn M = RL) : cxW M 163 mL_length [(0, 9, 12, 13), (0, 9, 15, 17)] 3 := ⟨by rw [h]; exact wOK_1 948 (by decide +kernel) (by decide +kernel), wOK_1 949 (by decide +kernel) (by decide +kernel), wOK_1 84 (by decide +kernel) (by decide +kernel), wOK_1 950 (by decide +kernel) (by decide +kernel), by decide +kernel, by decide +kernel⟩
abbrev mL_byteAt : nM := (RL, cL_byteAt, 5, some .int, 10, 177, yL_byteAt)
set_option maxRecDepth 100000 in
theorem cw_L_166 (M : nM) (h : mOwn M = RL) : cxW M 166 mL_byteAt [(0, 10, 13, 13), (0, 10, 17, 17)] 4 := ⟨by rw [h]; exact wOK_1 955 (by decide +kernel) (by decide +kernel), wOK_1 956 (by decide +kernel) (by decide +kernel), wOK_1 84 (by decide +kernel) (by decide +kernel), wOK_1 957 (by decide +kernel) (by decide +kernel), by decide +kernel, by decide +kernel⟩
abbrev mL_byteByNodes : nM := (RL, cL_byteByNodes, 5, some .int, 10, 177, yL_byteByNodes)
set_option maxRecDepth 100000 in
theorem cw_L_169 (M : nM) (h : mOwn M = RL) : cxW M 169 mL_byteByNodes [(0, 10, 13, 13), (0, 10, 17, 17)] 4 := ⟨by rw [h]; exact wOK_1 967 (by decide +kernel) (by decide +kernel), wOK_1 968 (by decide +kernel) (by decide +kernel), wOK_1 84 (by decide +kernel) (by decide +kernel), wOK_1 969 (by decide +kernel) (by decide +kernel), by decide +kernel, by decide +kernel⟩
abbrev mL_state : nM := (RL, cL_state, 4, some .int, 8, 155, yL_state)
set_option maxRecDepth 100000 in
theorem cw_L_172 (M : nM) (h : mOwn M = RL) : cxW M 172 mL_state [(0, 9, 12, 13), (0, 9, 15, 17)] 3 := ⟨by rw [h]; exact wOK_1 977 (by decide +kernel) (by decide +kernel), wOK_1 978 (by decide +kernel) (by decide +kernel), wOK_1 84 (by decide +kernel) (by decide +kernel), wOK_1 979 (by decide +kernel) (by decide +kernel), by decide +kernel, by decide +kernel⟩
abbrev mL_dead : nM := (RL, cL_dead, 4, some .int, 8, 154, yL_dead)
set_option maxRecDepth 100000 in
theorem cw_L_175 (M : nM) (h : mOwn M = RL) : cxW M 175 mL_dead [(0, 9, 12, 13), (0, 9, 15, 17)] 3 := ⟨by rw [h]; exact wOK_1 993 (by decide +kernel) (by decide +kernel), wOK_1 994 (by decide +kernel) (by decide +kernel), wOK_1 84 (by decide +kernel) (by decide +kernel), wOK_1 995 (by decide +kernel) (by decide +kernel), by decide +kernel, by decide +kernel⟩
abbrev mL_toCopy : nM := (RL, cL_toCopy, 4, some .int, 8, 180, yL_toCopy)
set_option maxRecDepth 100000 in
theorem cw_L_178 (M : nM) (h : mOwn M = RL) : cxW M 178 mL_toCopy [(0, 9, 12, 13), (0, 9, 15, 17)] 3 := ⟨by rw [h]; exact wOK_1 1004 (by decide +kernel) (by decide +kernel), wOK_1 1005 (by decide +kernel) (by decide +kernel), wOK_1 84 (by decide +kernel) (by decide +kernel), wOK_1 1006 (by decide +kernel) (by decide +kernel), by decide +kernel, by decide +kernel⟩
abbrev mL_written : nM := (RL, cL_written, 4, some .int, 8, 132, yL_written)
set_option maxRecDepth 100000 in
theorem cw_L_181 (M : nM) (h : mOwn M = RL) : cxW M 181 mL_written [(0, 9, 12, 13)] 3 := ⟨by rw [h]; exact wOK_1 1011 (by decide +kernel) (by decide +kernel), wOK_1 1012 (by decide +kernel) (by decide +kernel), wOK_1 84 (by decide +kernel) (by decide +kernel), wOK_1 1013 (by decide +kernel) (by decide +kernel), by decide +kernel, by decide +kernel⟩
abbrev mL_nodes : nM := (RL, cL_nodes, 4, some .int, 8, 132, yL_nodes)
set_option maxRecDepth 100000 in
theorem cw_L_184 (M : nM) (h : mOwn M = RL) : cxW M 184 mL_nodes [(0, 9, 12, 13)] 3 := ⟨by rw [h]; exact wOK_1 1018 (by decide +kernel) (by decide +kernel), wOK_1 1019 (by decide +kernel) (by decide +kernel), wOK_1 84 (by decide +kernel) (by decide +kernel), wOK_1 1020 (by decide +kernel) (by decide +kernel), by decide +kernel, by decide +kernel⟩
abbrev mL_node : nM := (RL, cL_node, 5, some .int, 8, 134, yL_node)
set_option maxRecDepth 100000 in
theorem cw_L_187 (M : nM) (h : mOwn M = RL) : cxW M 187 mL_node [(0, 9, 12, 13)] 4 := ⟨by rw [h]; exact wOK_1 1025 (by decide +kernel) (by decide +kernel), wOK_1 1026 (by decide +kernel) (by decide +kernel), wOK_1 84 (by decide +kernel) (by decide +kernel), wOK_1 1027 (by decide +kernel) (by decide +kernel), by decide +kernel, by decide +kernel⟩
abbrev mL_erased : nM := (RL, cL_erased, 4, some .int, 8, 132, yL_erased)
set_option maxRecDepth 100000 in
theorem cw_L_190 (M : nM) (h : mOwn M = RL) : cxW M 190 mL_erased [(0, 9, 12, 13)] 3 := ⟨by rw [h]; exact wOK_1 1037 (by decide +kernel) (by decide +kernel), wOK_1 1038 (by decide +kernel) (by decide +kernel), wOK_1 84 (by decide +kernel) (by decide +kernel), wOK_1 1039 (by decide +kernel) (by decide +kernel), by decide +kernel, by decide +kernel⟩
set_option maxRecDepth 100000 in
theorem kx_13 : wOK (.classLink RL 13 "java/lang/IndexOutOfBoundsException") ∧ Cond.castable "java/lang/IndexOutOfBoundsException" "java/lang/IndexOutOfBoundsException" ∈ lw_tbl := ⟨wOK_1 528 (by decide +kernel) (by decide +kernel), List.mem_of_getElem? (i := 618) (by decide +kernel)⟩
set_option maxRecDepth 100000 in
theorem kx_15 : wOK (.classLink RL 15 "java/lang/IllegalArgumentException") ∧ Cond.castable "java/lang/IllegalArgumentException" "java/lang/IllegalArgumentException" ∈ lw_tbl := ⟨wOK_1 529 (by decide +kernel) (by decide +kernel), List.mem_of_getElem? (i := 639) (by decide +kernel)⟩
set_option maxRecDepth 100000 in
theorem kx_17 : wOK (.classLink RL 17 "java/lang/IllegalStateException") ∧ Cond.castable "java/lang/IllegalStateException" "java/lang/IllegalStateException" ∈ lw_tbl := ⟨wOK_1 530 (by decide +kernel) (by decide +kernel), List.mem_of_getElem? (i := 549) (by decide +kernel)⟩
