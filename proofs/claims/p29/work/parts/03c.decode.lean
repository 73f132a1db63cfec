theorem dL_find_0 : decode cL_find 0 = .ok (.iconst (-1), 1) := by decide +kernel
theorem dL_find_1 : decode cL_find 1 = .ok (.istore 4, 2) := by decide +kernel
theorem dL_find_3 : decode cL_find 3 = .ok (.iconst 0, 1) := by decide +kernel
theorem dL_find_4 : decode cL_find 4 = .ok (.istore 5, 2) := by decide +kernel
theorem dL_find_6 : decode cL_find 6 = .ok (.iload 5, 2) := by decide +kernel
theorem dL_find_8 : decode cL_find 8 = .ok (.aload_n 0, 1) := by decide +kernel
theorem dL_find_9 : decode cL_find 9 = .ok (.iconst 0, 1) := by decide +kernel
theorem dL_find_10 : decode cL_find 10 = .ok (.iaload, 1) := by decide +kernel
theorem dL_find_11 : decode cL_find 11 = .ok (.if_icmp .ge 40, 3) := by decide +kernel
theorem dL_find_14 : decode cL_find 14 = .ok (.aload_n 1, 1) := by decide +kernel
theorem dL_find_15 : decode cL_find 15 = .ok (.iconst 4, 1) := by decide +kernel
theorem dL_find_16 : decode cL_find 16 = .ok (.iload 5, 2) := by decide +kernel
theorem dL_find_18 : decode cL_find 18 = .ok (.imul, 1) := by decide +kernel
theorem dL_find_19 : decode cL_find 19 = .ok (.iaload, 1) := by decide +kernel
theorem dL_find_20 : decode cL_find 20 = .ok (.iload_n 2, 1) := by decide +kernel
theorem dL_find_21 : decode cL_find 21 = .ok (.if_icmp .ne 20, 3) := by decide +kernel
theorem dL_find_24 : decode cL_find 24 = .ok (.aload_n 1, 1) := by decide +kernel
theorem dL_find_25 : decode cL_find 25 = .ok (.iconst 4, 1) := by decide +kernel
theorem dL_find_26 : decode cL_find 26 = .ok (.iload 5, 2) := by decide +kernel
theorem dL_find_28 : decode cL_find 28 = .ok (.imul, 1) := by decide +kernel
theorem dL_find_29 : decode cL_find 29 = .ok (.iconst 1, 1) := by decide +kernel
theorem dL_find_30 : decode cL_find 30 = .ok (.iadd, 1) := by decide +kernel
theorem dL_find_31 : decode cL_find 31 = .ok (.iaload, 1) := by decide +kernel
theorem dL_find_32 : decode cL_find 32 = .ok (.iload_n 3, 1) := by decide +kernel
theorem dL_find_33 : decode cL_find 33 = .ok (.if_icmp .ne 8, 3) := by decide +kernel
theorem dL_find_36 : decode cL_find 36 = .ok (.iload 5, 2) := by decide +kernel
theorem dL_find_38 : decode cL_find 38 = .ok (.goto 5, 3) := by decide +kernel
theorem dL_find_41 : decode cL_find 41 = .ok (.iload 4, 2) := by decide +kernel
theorem dL_find_43 : decode cL_find 43 = .ok (.istore 4, 2) := by decide +kernel
theorem dL_find_45 : decode cL_find 45 = .ok (.iinc 5 1, 3) := by decide +kernel
theorem dL_find_48 : decode cL_find 48 = .ok (.goto (-42), 3) := by decide +kernel
theorem dL_find_51 : decode cL_find 51 = .ok (.iload 4, 2) := by decide +kernel
theorem dL_find_53 : decode cL_find 53 = .ok (.ireturn, 1) := by decide +kernel
theorem dL_isDirectory_0 : decode cL_isDirectory 0 = .ok (.iload_n 2, 1) := by decide +kernel
theorem dL_isDirectory_1 : decode cL_isDirectory 1 = .ok (.iconst 1, 1) := by decide +kernel
theorem dL_isDirectory_2 : decode cL_isDirectory 2 = .ok (.if_icmp .ne 7, 3) := by decide +kernel
theorem dL_isDirectory_5 : decode cL_isDirectory 5 = .ok (.iconst 1, 1) := by decide +kernel
theorem dL_isDirectory_6 : decode cL_isDirectory 6 = .ok (.goto 4, 3) := by decide +kernel
theorem dL_isDirectory_9 : decode cL_isDirectory 9 = .ok (.iconst 0, 1) := by decide +kernel
theorem dL_isDirectory_10 : decode cL_isDirectory 10 = .ok (.istore_n 3, 1) := by decide +kernel
theorem dL_isDirectory_11 : decode cL_isDirectory 11 = .ok (.iconst 0, 1) := by decide +kernel
theorem dL_isDirectory_12 : decode cL_isDirectory 12 = .ok (.istore 4, 2) := by decide +kernel
theorem dL_isDirectory_14 : decode cL_isDirectory 14 = .ok (.iload 4, 2) := by decide +kernel
theorem dL_isDirectory_16 : decode cL_isDirectory 16 = .ok (.aload_n 0, 1) := by decide +kernel
theorem dL_isDirectory_17 : decode cL_isDirectory 17 = .ok (.iconst 0, 1) := by decide +kernel
theorem dL_isDirectory_18 : decode cL_isDirectory 18 = .ok (.iaload, 1) := by decide +kernel
theorem dL_isDirectory_19 : decode cL_isDirectory 19 = .ok (.if_icmp .ge 43, 3) := by decide +kernel
theorem dL_isDirectory_22 : decode cL_isDirectory 22 = .ok (.iload_n 3, 1) := by decide +kernel
theorem dL_isDirectory_23 : decode cL_isDirectory 23 = .ok (.ifCond .ne 27, 3) := by decide +kernel
theorem dL_isDirectory_26 : decode cL_isDirectory 26 = .ok (.aload_n 1, 1) := by decide +kernel
theorem dL_isDirectory_27 : decode cL_isDirectory 27 = .ok (.iconst 4, 1) := by decide +kernel
theorem dL_isDirectory_28 : decode cL_isDirectory 28 = .ok (.iload 4, 2) := by decide +kernel
theorem dL_isDirectory_30 : decode cL_isDirectory 30 = .ok (.imul, 1) := by decide +kernel
theorem dL_isDirectory_31 : decode cL_isDirectory 31 = .ok (.iconst 2, 1) := by decide +kernel
theorem dL_isDirectory_32 : decode cL_isDirectory 32 = .ok (.iadd, 1) := by decide +kernel
theorem dL_isDirectory_33 : decode cL_isDirectory 33 = .ok (.iaload, 1) := by decide +kernel
theorem dL_isDirectory_34 : decode cL_isDirectory 34 = .ok (.iload_n 2, 1) := by decide +kernel
theorem dL_isDirectory_35 : decode cL_isDirectory 35 = .ok (.if_icmp .ne 19, 3) := by decide +kernel
theorem dL_isDirectory_38 : decode cL_isDirectory 38 = .ok (.aload_n 1, 1) := by decide +kernel
theorem dL_isDirectory_39 : decode cL_isDirectory 39 = .ok (.iconst 4, 1) := by decide +kernel
theorem dL_isDirectory_40 : decode cL_isDirectory 40 = .ok (.iload 4, 2) := by decide +kernel
theorem dL_isDirectory_42 : decode cL_isDirectory 42 = .ok (.imul, 1) := by decide +kernel
theorem dL_isDirectory_43 : decode cL_isDirectory 43 = .ok (.iconst 3, 1) := by decide +kernel
theorem dL_isDirectory_44 : decode cL_isDirectory 44 = .ok (.iadd, 1) := by decide +kernel
theorem dL_isDirectory_45 : decode cL_isDirectory 45 = .ok (.iaload, 1) := by decide +kernel
theorem dL_isDirectory_46 : decode cL_isDirectory 46 = .ok (.iconst 1, 1) := by decide +kernel
theorem dL_isDirectory_47 : decode cL_isDirectory 47 = .ok (.if_icmp .ne 7, 3) := by decide +kernel
theorem dL_isDirectory_50 : decode cL_isDirectory 50 = .ok (.iconst 1, 1) := by decide +kernel
theorem dL_isDirectory_51 : decode cL_isDirectory 51 = .ok (.goto 4, 3) := by decide +kernel
theorem dL_isDirectory_54 : decode cL_isDirectory 54 = .ok (.iconst 0, 1) := by decide +kernel
theorem dL_isDirectory_55 : decode cL_isDirectory 55 = .ok (.istore_n 3, 1) := by decide +kernel
theorem dL_isDirectory_56 : decode cL_isDirectory 56 = .ok (.iinc 4 1, 3) := by decide +kernel
theorem dL_isDirectory_59 : decode cL_isDirectory 59 = .ok (.goto (-45), 3) := by decide +kernel
theorem dL_isDirectory_62 : decode cL_isDirectory 62 = .ok (.iload_n 3, 1) := by decide +kernel
theorem dL_isDirectory_63 : decode cL_isDirectory 63 = .ok (.ireturn, 1) := by decide +kernel
theorem dL_links_0 : decode cL_links 0 = .ok (.iconst 0, 1) := by decide +kernel
theorem dL_links_1 : decode cL_links 1 = .ok (.istore_n 3, 1) := by decide +kernel
theorem dL_links_2 : decode cL_links 2 = .ok (.iconst 0, 1) := by decide +kernel
theorem dL_links_3 : decode cL_links 3 = .ok (.istore 4, 2) := by decide +kernel
theorem dL_links_5 : decode cL_links 5 = .ok (.iload 4, 2) := by decide +kernel
theorem dL_links_7 : decode cL_links 7 = .ok (.aload_n 0, 1) := by decide +kernel
theorem dL_links_8 : decode cL_links 8 = .ok (.iconst 0, 1) := by decide +kernel
theorem dL_links_9 : decode cL_links 9 = .ok (.iaload, 1) := by decide +kernel
theorem dL_links_10 : decode cL_links 10 = .ok (.if_icmp .ge 29, 3) := by decide +kernel
theorem dL_links_13 : decode cL_links 13 = .ok (.iload_n 3, 1) := by decide +kernel
theorem dL_links_14 : decode cL_links 14 = .ok (.aload_n 1, 1) := by decide +kernel
theorem dL_links_15 : decode cL_links 15 = .ok (.iconst 4, 1) := by decide +kernel
theorem dL_links_16 : decode cL_links 16 = .ok (.iload 4, 2) := by decide +kernel
theorem dL_links_18 : decode cL_links 18 = .ok (.imul, 1) := by decide +kernel
theorem dL_links_19 : decode cL_links 19 = .ok (.iconst 2, 1) := by decide +kernel
theorem dL_links_20 : decode cL_links 20 = .ok (.iadd, 1) := by decide +kernel
theorem dL_links_21 : decode cL_links 21 = .ok (.iaload, 1) := by decide +kernel
theorem dL_links_22 : decode cL_links 22 = .ok (.iload_n 2, 1) := by decide +kernel
theorem dL_links_23 : decode cL_links 23 = .ok (.if_icmp .ne 7, 3) := by decide +kernel
theorem dL_links_26 : decode cL_links 26 = .ok (.iconst 1, 1) := by decide +kernel
theorem dL_links_27 : decode cL_links 27 = .ok (.goto 4, 3) := by decide +kernel
theorem dL_links_30 : decode cL_links 30 = .ok (.iconst 0, 1) := by decide +kernel
theorem dL_links_31 : decode cL_links 31 = .ok (.iadd, 1) := by decide +kernel
theorem dL_links_32 : decode cL_links 32 = .ok (.istore_n 3, 1) := by decide +kernel
theorem dL_links_33 : decode cL_links 33 = .ok (.iinc 4 1, 3) := by decide +kernel
theorem dL_links_36 : decode cL_links 36 = .ok (.goto (-31), 3) := by decide +kernel
theorem dL_links_39 : decode cL_links 39 = .ok (.iload_n 3, 1) := by decide +kernel
theorem dL_links_40 : decode cL_links 40 = .ok (.ireturn, 1) := by decide +kernel
theorem dL_namesIn_0 : decode cL_namesIn 0 = .ok (.iconst 0, 1) := by decide +kernel
theorem dL_namesIn_1 : decode cL_namesIn 1 = .ok (.istore_n 3, 1) := by decide +kernel
theorem dL_namesIn_2 : decode cL_namesIn 2 = .ok (.iconst 0, 1) := by decide +kernel
theorem dL_namesIn_3 : decode cL_namesIn 3 = .ok (.istore 4, 2) := by decide +kernel
theorem dL_namesIn_5 : decode cL_namesIn 5 = .ok (.iload 4, 2) := by decide +kernel
theorem dL_namesIn_7 : decode cL_namesIn 7 = .ok (.aload_n 0, 1) := by decide +kernel
theorem dL_namesIn_8 : decode cL_namesIn 8 = .ok (.iconst 0, 1) := by decide +kernel
theorem dL_namesIn_9 : decode cL_namesIn 9 = .ok (.iaload, 1) := by decide +kernel
theorem dL_namesIn_10 : decode cL_namesIn 10 = .ok (.if_icmp .ge 27, 3) := by decide +kernel
theorem dL_namesIn_13 : decode cL_namesIn 13 = .ok (.iload_n 3, 1) := by decide +kernel
theorem dL_namesIn_14 : decode cL_namesIn 14 = .ok (.aload_n 1, 1) := by decide +kernel
theorem dL_namesIn_15 : decode cL_namesIn 15 = .ok (.iconst 4, 1) := by decide +kernel
theorem dL_namesIn_16 : decode cL_namesIn 16 = .ok (.iload 4, 2) := by decide +kernel
theorem dL_namesIn_18 : decode cL_namesIn 18 = .ok (.imul, 1) := by decide +kernel
theorem dL_namesIn_19 : decode cL_namesIn 19 = .ok (.iaload, 1) := by decide +kernel
theorem dL_namesIn_20 : decode cL_namesIn 20 = .ok (.iload_n 2, 1) := by decide +kernel
theorem dL_namesIn_21 : decode cL_namesIn 21 = .ok (.if_icmp .ne 7, 3) := by decide +kernel
theorem dL_namesIn_24 : decode cL_namesIn 24 = .ok (.iconst 1, 1) := by decide +kernel
theorem dL_namesIn_25 : decode cL_namesIn 25 = .ok (.goto 4, 3) := by decide +kernel
theorem dL_namesIn_28 : decode cL_namesIn 28 = .ok (.iconst 0, 1) := by decide +kernel
theorem dL_namesIn_29 : decode cL_namesIn 29 = .ok (.iadd, 1) := by decide +kernel
theorem dL_namesIn_30 : decode cL_namesIn 30 = .ok (.istore_n 3, 1) := by decide +kernel
theorem dL_namesIn_31 : decode cL_namesIn 31 = .ok (.iinc 4 1, 3) := by decide +kernel
theorem dL_namesIn_34 : decode cL_namesIn 34 = .ok (.goto (-29), 3) := by decide +kernel
theorem dL_namesIn_37 : decode cL_namesIn 37 = .ok (.iload_n 3, 1) := by decide +kernel
theorem dL_namesIn_38 : decode cL_namesIn 38 = .ok (.ireturn, 1) := by decide +kernel
theorem dL_slot_0 : decode cL_slot 0 = .ok (.iconst (-1), 1) := by decide +kernel
theorem dL_slot_1 : decode cL_slot 1 = .ok (.istore_n 3, 1) := by decide +kernel
theorem dL_slot_2 : decode cL_slot 2 = .ok (.iconst 0, 1) := by decide +kernel
theorem dL_slot_3 : decode cL_slot 3 = .ok (.istore 4, 2) := by decide +kernel
theorem dL_slot_5 : decode cL_slot 5 = .ok (.iload 4, 2) := by decide +kernel
theorem dL_slot_7 : decode cL_slot 7 = .ok (.aload_n 0, 1) := by decide +kernel
theorem dL_slot_8 : decode cL_slot 8 = .ok (.iconst 1, 1) := by decide +kernel
theorem dL_slot_9 : decode cL_slot 9 = .ok (.iaload, 1) := by decide +kernel
theorem dL_slot_10 : decode cL_slot 10 = .ok (.if_icmp .ge 24, 3) := by decide +kernel
theorem dL_slot_13 : decode cL_slot 13 = .ok (.aload_n 1, 1) := by decide +kernel
theorem dL_slot_14 : decode cL_slot 14 = .ok (.iload 4, 2) := by decide +kernel
theorem dL_slot_16 : decode cL_slot 16 = .ok (.iaload, 1) := by decide +kernel
theorem dL_slot_17 : decode cL_slot 17 = .ok (.iload_n 2, 1) := by decide +kernel
theorem dL_slot_18 : decode cL_slot 18 = .ok (.if_icmp .ne 8, 3) := by decide +kernel
theorem dL_slot_21 : decode cL_slot 21 = .ok (.iload 4, 2) := by decide +kernel
theorem dL_slot_23 : decode cL_slot 23 = .ok (.goto 4, 3) := by decide +kernel
theorem dL_slot_26 : decode cL_slot 26 = .ok (.iload_n 3, 1) := by decide +kernel
theorem dL_slot_27 : decode cL_slot 27 = .ok (.istore_n 3, 1) := by decide +kernel
theorem dL_slot_28 : decode cL_slot 28 = .ok (.iinc 4 1, 3) := by decide +kernel
theorem dL_slot_31 : decode cL_slot 31 = .ok (.goto (-26), 3) := by decide +kernel
theorem dL_slot_34 : decode cL_slot 34 = .ok (.iload_n 3, 1) := by decide +kernel
theorem dL_slot_35 : decode cL_slot 35 = .ok (.ireturn, 1) := by decide +kernel
theorem dL_adds_0 : decode cL_adds 0 = .ok (.aload_n 1, 1) := by decide +kernel
theorem dL_adds_1 : decode cL_adds 1 = .ok (.iconst 4, 1) := by decide +kernel
theorem dL_adds_2 : decode cL_adds 2 = .ok (.aload_n 0, 1) := by decide +kernel
theorem dL_adds_3 : decode cL_adds 3 = .ok (.iconst 0, 1) := by decide +kernel
theorem dL_adds_4 : decode cL_adds 4 = .ok (.iaload, 1) := by decide +kernel
theorem dL_adds_5 : decode cL_adds 5 = .ok (.imul, 1) := by decide +kernel
theorem dL_adds_6 : decode cL_adds 6 = .ok (.iload_n 2, 1) := by decide +kernel
theorem dL_adds_7 : decode cL_adds 7 = .ok (.iastore, 1) := by decide +kernel
theorem dL_adds_8 : decode cL_adds 8 = .ok (.aload_n 1, 1) := by decide +kernel
theorem dL_adds_9 : decode cL_adds 9 = .ok (.iconst 4, 1) := by decide +kernel
theorem dL_adds_10 : decode cL_adds 10 = .ok (.aload_n 0, 1) := by decide +kernel
theorem dL_adds_11 : decode cL_adds 11 = .ok (.iconst 0, 1) := by decide +kernel
theorem dL_adds_12 : decode cL_adds 12 = .ok (.iaload, 1) := by decide +kernel
theorem dL_adds_13 : decode cL_adds 13 = .ok (.imul, 1) := by decide +kernel
theorem dL_adds_14 : decode cL_adds 14 = .ok (.iconst 1, 1) := by decide +kernel
theorem dL_adds_15 : decode cL_adds 15 = .ok (.iadd, 1) := by decide +kernel
theorem dL_adds_16 : decode cL_adds 16 = .ok (.iload_n 3, 1) := by decide +kernel
theorem dL_adds_17 : decode cL_adds 17 = .ok (.iastore, 1) := by decide +kernel
theorem dL_adds_18 : decode cL_adds 18 = .ok (.aload_n 1, 1) := by decide +kernel
theorem dL_adds_19 : decode cL_adds 19 = .ok (.iconst 4, 1) := by decide +kernel
theorem dL_adds_20 : decode cL_adds 20 = .ok (.aload_n 0, 1) := by decide +kernel
theorem dL_adds_21 : decode cL_adds 21 = .ok (.iconst 0, 1) := by decide +kernel
theorem dL_adds_22 : decode cL_adds 22 = .ok (.iaload, 1) := by decide +kernel
theorem dL_adds_23 : decode cL_adds 23 = .ok (.imul, 1) := by decide +kernel
theorem dL_adds_24 : decode cL_adds 24 = .ok (.iconst 2, 1) := by decide +kernel
theorem dL_adds_25 : decode cL_adds 25 = .ok (.iadd, 1) := by decide +kernel
theorem dL_adds_26 : decode cL_adds 26 = .ok (.iload 4, 2) := by decide +kernel
theorem dL_adds_28 : decode cL_adds 28 = .ok (.iastore, 1) := by decide +kernel
theorem dL_adds_29 : decode cL_adds 29 = .ok (.aload_n 1, 1) := by decide +kernel
theorem dL_adds_30 : decode cL_adds 30 = .ok (.iconst 4, 1) := by decide +kernel
theorem dL_adds_31 : decode cL_adds 31 = .ok (.aload_n 0, 1) := by decide +kernel
theorem dL_adds_32 : decode cL_adds 32 = .ok (.iconst 0, 1) := by decide +kernel
theorem dL_adds_33 : decode cL_adds 33 = .ok (.iaload, 1) := by decide +kernel
theorem dL_adds_34 : decode cL_adds 34 = .ok (.imul, 1) := by decide +kernel
theorem dL_adds_35 : decode cL_adds 35 = .ok (.iconst 3, 1) := by decide +kernel
theorem dL_adds_36 : decode cL_adds 36 = .ok (.iadd, 1) := by decide +kernel
theorem dL_adds_37 : decode cL_adds 37 = .ok (.iload 5, 2) := by decide +kernel
theorem dL_adds_39 : decode cL_adds 39 = .ok (.iastore, 1) := by decide +kernel
theorem dL_adds_40 : decode cL_adds 40 = .ok (.aload_n 0, 1) := by decide +kernel
theorem dL_adds_41 : decode cL_adds 41 = .ok (.iconst 0, 1) := by decide +kernel
theorem dL_adds_42 : decode cL_adds 42 = .ok (.dup2, 1) := by decide +kernel
theorem dL_adds_43 : decode cL_adds 43 = .ok (.iaload, 1) := by decide +kernel
theorem dL_adds_44 : decode cL_adds 44 = .ok (.iconst 1, 1) := by decide +kernel
theorem dL_adds_45 : decode cL_adds 45 = .ok (.iadd, 1) := by decide +kernel
theorem dL_adds_46 : decode cL_adds 46 = .ok (.iastore, 1) := by decide +kernel
theorem dL_adds_47 : decode cL_adds 47 = .ok (.return_, 1) := by decide +kernel
theorem dL_takes_0 : decode cL_takes 0 = .ok (.aload_n 1, 1) := by decide +kernel
theorem dL_takes_1 : decode cL_takes 1 = .ok (.iconst 4, 1) := by decide +kernel
theorem dL_takes_2 : decode cL_takes 2 = .ok (.iload 5, 2) := by decide +kernel
theorem dL_takes_4 : decode cL_takes 4 = .ok (.imul, 1) := by decide +kernel
theorem dL_takes_5 : decode cL_takes 5 = .ok (.iconst 2, 1) := by decide +kernel
theorem dL_takes_6 : decode cL_takes 6 = .ok (.iadd, 1) := by decide +kernel
theorem dL_takes_7 : decode cL_takes 7 = .ok (.iaload, 1) := by decide +kernel
theorem dL_takes_8 : decode cL_takes 8 = .ok (.istore 6, 2) := by decide +kernel
theorem dL_takes_10 : decode cL_takes 10 = .ok (.aload_n 0, 1) := by decide +kernel
theorem dL_takes_11 : decode cL_takes 11 = .ok (.iconst 0, 1) := by decide +kernel
theorem dL_takes_12 : decode cL_takes 12 = .ok (.dup2, 1) := by decide +kernel
theorem dL_takes_13 : decode cL_takes 13 = .ok (.iaload, 1) := by decide +kernel
theorem dL_takes_14 : decode cL_takes 14 = .ok (.iconst 1, 1) := by decide +kernel
theorem dL_takes_15 : decode cL_takes 15 = .ok (.isub, 1) := by decide +kernel
theorem dL_takes_16 : decode cL_takes 16 = .ok (.iastore, 1) := by decide +kernel
theorem dL_takes_17 : decode cL_takes 17 = .ok (.iconst 4, 1) := by decide +kernel
theorem dL_takes_18 : decode cL_takes 18 = .ok (.iload 5, 2) := by decide +kernel
theorem dL_takes_20 : decode cL_takes 20 = .ok (.imul, 1) := by decide +kernel
theorem dL_takes_21 : decode cL_takes 21 = .ok (.istore 7, 2) := by decide +kernel
theorem dL_takes_23 : decode cL_takes 23 = .ok (.iload 7, 2) := by decide +kernel
theorem dL_takes_25 : decode cL_takes 25 = .ok (.iconst 4, 1) := by decide +kernel
theorem dL_takes_26 : decode cL_takes 26 = .ok (.aload_n 0, 1) := by decide +kernel
theorem dL_takes_27 : decode cL_takes 27 = .ok (.iconst 0, 1) := by decide +kernel
theorem dL_takes_28 : decode cL_takes 28 = .ok (.iaload, 1) := by decide +kernel
theorem dL_takes_29 : decode cL_takes 29 = .ok (.imul, 1) := by decide +kernel
theorem dL_takes_30 : decode cL_takes 30 = .ok (.if_icmp .ge 19, 3) := by decide +kernel
theorem dL_takes_33 : decode cL_takes 33 = .ok (.aload_n 1, 1) := by decide +kernel
theorem dL_takes_34 : decode cL_takes 34 = .ok (.iload 7, 2) := by decide +kernel
theorem dL_takes_36 : decode cL_takes 36 = .ok (.aload_n 1, 1) := by decide +kernel
theorem dL_takes_37 : decode cL_takes 37 = .ok (.iload 7, 2) := by decide +kernel
theorem dL_takes_39 : decode cL_takes 39 = .ok (.iconst 4, 1) := by decide +kernel
theorem dL_takes_40 : decode cL_takes 40 = .ok (.iadd, 1) := by decide +kernel
theorem dL_takes_41 : decode cL_takes 41 = .ok (.iaload, 1) := by decide +kernel
theorem dL_takes_42 : decode cL_takes 42 = .ok (.iastore, 1) := by decide +kernel
theorem dL_takes_43 : decode cL_takes 43 = .ok (.iinc 7 1, 3) := by decide +kernel
theorem dL_takes_46 : decode cL_takes 46 = .ok (.goto (-23), 3) := by decide +kernel
theorem dL_takes_49 : decode cL_takes 49 = .ok (.aload_n 0, 1) := by decide +kernel
theorem dL_takes_50 : decode cL_takes 50 = .ok (.aload_n 2, 1) := by decide +kernel
theorem dL_takes_51 : decode cL_takes 51 = .ok (.iload 6, 2) := by decide +kernel
theorem dL_takes_53 : decode cL_takes 53 = .ok (.invokestatic 7, 3) := by decide +kernel
theorem dL_takes_56 : decode cL_takes 56 = .ok (.istore 7, 2) := by decide +kernel
theorem dL_takes_58 : decode cL_takes 58 = .ok (.iload 7, 2) := by decide +kernel
theorem dL_takes_60 : decode cL_takes 60 = .ok (.ifCond .lt 97, 3) := by decide +kernel
theorem dL_takes_63 : decode cL_takes 63 = .ok (.aload_n 0, 1) := by decide +kernel
theorem dL_takes_64 : decode cL_takes 64 = .ok (.aload_n 1, 1) := by decide +kernel
theorem dL_takes_65 : decode cL_takes 65 = .ok (.iload 6, 2) := by decide +kernel
theorem dL_takes_67 : decode cL_takes 67 = .ok (.invokestatic 13, 3) := by decide +kernel
theorem dL_takes_70 : decode cL_takes 70 = .ok (.ifCond .ne 87, 3) := by decide +kernel
theorem dL_takes_73 : decode cL_takes 73 = .ok (.aload_n 0, 1) := by decide +kernel
theorem dL_takes_74 : decode cL_takes 74 = .ok (.iconst 1, 1) := by decide +kernel
theorem dL_takes_75 : decode cL_takes 75 = .ok (.dup2, 1) := by decide +kernel
theorem dL_takes_76 : decode cL_takes 76 = .ok (.iaload, 1) := by decide +kernel
theorem dL_takes_77 : decode cL_takes 77 = .ok (.iconst 1, 1) := by decide +kernel
theorem dL_takes_78 : decode cL_takes 78 = .ok (.isub, 1) := by decide +kernel
theorem dL_takes_79 : decode cL_takes 79 = .ok (.iastore, 1) := by decide +kernel
theorem dL_takes_80 : decode cL_takes 80 = .ok (.iload 7, 2) := by decide +kernel
theorem dL_takes_82 : decode cL_takes 82 = .ok (.istore 8, 2) := by decide +kernel
theorem dL_takes_84 : decode cL_takes 84 = .ok (.iload 8, 2) := by decide +kernel
theorem dL_takes_86 : decode cL_takes 86 = .ok (.aload_n 0, 1) := by decide +kernel
theorem dL_takes_87 : decode cL_takes 87 = .ok (.iconst 1, 1) := by decide +kernel
theorem dL_takes_88 : decode cL_takes 88 = .ok (.iaload, 1) := by decide +kernel
theorem dL_takes_89 : decode cL_takes 89 = .ok (.if_icmp .ge 68, 3) := by decide +kernel
theorem dL_takes_92 : decode cL_takes 92 = .ok (.aload_n 2, 1) := by decide +kernel
theorem dL_takes_93 : decode cL_takes 93 = .ok (.iload 8, 2) := by decide +kernel
theorem dL_takes_95 : decode cL_takes 95 = .ok (.aload_n 2, 1) := by decide +kernel
theorem dL_takes_96 : decode cL_takes 96 = .ok (.iload 8, 2) := by decide +kernel
theorem dL_takes_98 : decode cL_takes 98 = .ok (.iconst 1, 1) := by decide +kernel
theorem dL_takes_99 : decode cL_takes 99 = .ok (.iadd, 1) := by decide +kernel
theorem dL_takes_100 : decode cL_takes 100 = .ok (.iaload, 1) := by decide +kernel
theorem dL_takes_101 : decode cL_takes 101 = .ok (.iastore, 1) := by decide +kernel
theorem dL_takes_102 : decode cL_takes 102 = .ok (.aload_n 3, 1) := by decide +kernel
theorem dL_takes_103 : decode cL_takes 103 = .ok (.iload 8, 2) := by decide +kernel
theorem dL_takes_105 : decode cL_takes 105 = .ok (.aload_n 3, 1) := by decide +kernel
theorem dL_takes_106 : decode cL_takes 106 = .ok (.iload 8, 2) := by decide +kernel
theorem dL_takes_108 : decode cL_takes 108 = .ok (.iconst 1, 1) := by decide +kernel
theorem dL_takes_109 : decode cL_takes 109 = .ok (.iadd, 1) := by decide +kernel
theorem dL_takes_110 : decode cL_takes 110 = .ok (.iaload, 1) := by decide +kernel
theorem dL_takes_111 : decode cL_takes 111 = .ok (.iastore, 1) := by decide +kernel
theorem dL_takes_112 : decode cL_takes 112 = .ok (.bipush 8, 2) := by decide +kernel
theorem dL_takes_114 : decode cL_takes 114 = .ok (.iload 8, 2) := by decide +kernel
theorem dL_takes_116 : decode cL_takes 116 = .ok (.imul, 1) := by decide +kernel
theorem dL_takes_117 : decode cL_takes 117 = .ok (.istore 9, 2) := by decide +kernel
theorem dL_takes_119 : decode cL_takes 119 = .ok (.iload 9, 2) := by decide +kernel
theorem dL_takes_121 : decode cL_takes 121 = .ok (.bipush 8, 2) := by decide +kernel
theorem dL_takes_123 : decode cL_takes 123 = .ok (.iload 8, 2) := by decide +kernel
theorem dL_takes_125 : decode cL_takes 125 = .ok (.imul, 1) := by decide +kernel
theorem dL_takes_126 : decode cL_takes 126 = .ok (.bipush 8, 2) := by decide +kernel
theorem dL_takes_128 : decode cL_takes 128 = .ok (.iadd, 1) := by decide +kernel
theorem dL_takes_129 : decode cL_takes 129 = .ok (.if_icmp .ge 22, 3) := by decide +kernel
theorem dL_takes_132 : decode cL_takes 132 = .ok (.aload 4, 2) := by decide +kernel
theorem dL_takes_134 : decode cL_takes 134 = .ok (.iload 9, 2) := by decide +kernel
theorem dL_takes_136 : decode cL_takes 136 = .ok (.aload 4, 2) := by decide +kernel
theorem dL_takes_138 : decode cL_takes 138 = .ok (.iload 9, 2) := by decide +kernel
theorem dL_takes_140 : decode cL_takes 140 = .ok (.bipush 8, 2) := by decide +kernel
theorem dL_takes_142 : decode cL_takes 142 = .ok (.iadd, 1) := by decide +kernel
theorem dL_takes_143 : decode cL_takes 143 = .ok (.laload, 1) := by decide +kernel
theorem dL_takes_144 : decode cL_takes 144 = .ok (.lastore, 1) := by decide +kernel
theorem dL_takes_145 : decode cL_takes 145 = .ok (.iinc 9 1, 3) := by decide +kernel
theorem dL_takes_148 : decode cL_takes 148 = .ok (.goto (-29), 3) := by decide +kernel
theorem dL_takes_151 : decode cL_takes 151 = .ok (.iinc 8 1, 3) := by decide +kernel
theorem dL_takes_154 : decode cL_takes 154 = .ok (.goto (-70), 3) := by decide +kernel
theorem dL_takes_157 : decode cL_takes 157 = .ok (.return_, 1) := by decide +kernel
theorem dL_opens_0 : decode cL_opens 0 = .ok (.aload_n 1, 1) := by decide +kernel
theorem dL_opens_1 : decode cL_opens 1 = .ok (.aload_n 0, 1) := by decide +kernel
theorem dL_opens_2 : decode cL_opens 2 = .ok (.iconst 1, 1) := by decide +kernel
theorem dL_opens_3 : decode cL_opens 3 = .ok (.iaload, 1) := by decide +kernel
theorem dL_opens_4 : decode cL_opens 4 = .ok (.iload 4, 2) := by decide +kernel
theorem dL_opens_6 : decode cL_opens 6 = .ok (.iastore, 1) := by decide +kernel
theorem dL_opens_7 : decode cL_opens 7 = .ok (.aload_n 2, 1) := by decide +kernel
theorem dL_opens_8 : decode cL_opens 8 = .ok (.aload_n 0, 1) := by decide +kernel
theorem dL_opens_9 : decode cL_opens 9 = .ok (.iconst 1, 1) := by decide +kernel
theorem dL_opens_10 : decode cL_opens 10 = .ok (.iaload, 1) := by decide +kernel
theorem dL_opens_11 : decode cL_opens 11 = .ok (.iconst 0, 1) := by decide +kernel
theorem dL_opens_12 : decode cL_opens 12 = .ok (.iastore, 1) := by decide +kernel
theorem dL_opens_13 : decode cL_opens 13 = .ok (.bipush 8, 2) := by decide +kernel
theorem dL_opens_15 : decode cL_opens 15 = .ok (.aload_n 0, 1) := by decide +kernel
theorem dL_opens_16 : decode cL_opens 16 = .ok (.iconst 1, 1) := by decide +kernel
theorem dL_opens_17 : decode cL_opens 17 = .ok (.iaload, 1) := by decide +kernel
theorem dL_opens_18 : decode cL_opens 18 = .ok (.imul, 1) := by decide +kernel
theorem dL_opens_19 : decode cL_opens 19 = .ok (.istore 5, 2) := by decide +kernel
theorem dL_opens_21 : decode cL_opens 21 = .ok (.iload 5, 2) := by decide +kernel
theorem dL_opens_23 : decode cL_opens 23 = .ok (.bipush 8, 2) := by decide +kernel
theorem dL_opens_25 : decode cL_opens 25 = .ok (.aload_n 0, 1) := by decide +kernel
theorem dL_opens_26 : decode cL_opens 26 = .ok (.iconst 1, 1) := by decide +kernel
theorem dL_opens_27 : decode cL_opens 27 = .ok (.iaload, 1) := by decide +kernel
theorem dL_opens_28 : decode cL_opens 28 = .ok (.imul, 1) := by decide +kernel
theorem dL_opens_29 : decode cL_opens 29 = .ok (.bipush 8, 2) := by decide +kernel
theorem dL_opens_31 : decode cL_opens 31 = .ok (.iadd, 1) := by decide +kernel
theorem dL_opens_32 : decode cL_opens 32 = .ok (.if_icmp .ge 14, 3) := by decide +kernel
theorem dL_opens_35 : decode cL_opens 35 = .ok (.aload_n 3, 1) := by decide +kernel
theorem dL_opens_36 : decode cL_opens 36 = .ok (.iload 5, 2) := by decide +kernel
theorem dL_opens_38 : decode cL_opens 38 = .ok (.lconst 0, 1) := by decide +kernel
theorem dL_opens_39 : decode cL_opens 39 = .ok (.lastore, 1) := by decide +kernel
theorem dL_opens_40 : decode cL_opens 40 = .ok (.iinc 5 1, 3) := by decide +kernel
theorem dL_opens_43 : decode cL_opens 43 = .ok (.goto (-22), 3) := by decide +kernel
theorem dL_opens_46 : decode cL_opens 46 = .ok (.aload_n 0, 1) := by decide +kernel
theorem dL_opens_47 : decode cL_opens 47 = .ok (.iconst 1, 1) := by decide +kernel
theorem dL_opens_48 : decode cL_opens 48 = .ok (.dup2, 1) := by decide +kernel
theorem dL_opens_49 : decode cL_opens 49 = .ok (.iaload, 1) := by decide +kernel
theorem dL_opens_50 : decode cL_opens 50 = .ok (.iconst 1, 1) := by decide +kernel
theorem dL_opens_51 : decode cL_opens 51 = .ok (.iadd, 1) := by decide +kernel
theorem dL_opens_52 : decode cL_opens 52 = .ok (.iastore, 1) := by decide +kernel
theorem dL_opens_53 : decode cL_opens 53 = .ok (.return_, 1) := by decide +kernel
theorem dL_lays_0 : decode cL_lays 0 = .ok (.bipush 8, 2) := by decide +kernel
theorem dL_lays_2 : decode cL_lays 2 = .ok (.iload_n 1, 1) := by decide +kernel
theorem dL_lays_3 : decode cL_lays 3 = .ok (.imul, 1) := by decide +kernel
theorem dL_lays_4 : decode cL_lays 4 = .ok (.iload_n 2, 1) := by decide +kernel
theorem dL_lays_5 : decode cL_lays 5 = .ok (.bipush 8, 2) := by decide +kernel
theorem dL_lays_7 : decode cL_lays 7 = .ok (.idiv, 1) := by decide +kernel
theorem dL_lays_8 : decode cL_lays 8 = .ok (.iadd, 1) := by decide +kernel
theorem dL_lays_9 : decode cL_lays 9 = .ok (.istore 5, 2) := by decide +kernel
theorem dL_lays_11 : decode cL_lays 11 = .ok (.bipush 8, 2) := by decide +kernel
theorem dL_lays_13 : decode cL_lays 13 = .ok (.iload_n 2, 1) := by decide +kernel
theorem dL_lays_14 : decode cL_lays 14 = .ok (.bipush 8, 2) := by decide +kernel
theorem dL_lays_16 : decode cL_lays 16 = .ok (.irem, 1) := by decide +kernel
theorem dL_lays_17 : decode cL_lays 17 = .ok (.imul, 1) := by decide +kernel
theorem dL_lays_18 : decode cL_lays 18 = .ok (.istore 6, 2) := by decide +kernel
theorem dL_lays_20 : decode cL_lays 20 = .ok (.aload_n 0, 1) := by decide +kernel
theorem dL_lays_21 : decode cL_lays 21 = .ok (.iload 5, 2) := by decide +kernel
theorem dL_lays_23 : decode cL_lays 23 = .ok (.aload_n 0, 1) := by decide +kernel
theorem dL_lays_24 : decode cL_lays 24 = .ok (.iload 5, 2) := by decide +kernel
theorem dL_lays_26 : decode cL_lays 26 = .ok (.laload, 1) := by decide +kernel
theorem dL_lays_27 : decode cL_lays 27 = .ok (.ldc2_w 16, 3) := by decide +kernel
theorem dL_lays_30 : decode cL_lays 30 = .ok (.iload 6, 2) := by decide +kernel
theorem dL_lays_32 : decode cL_lays 32 = .ok (.lshl, 1) := by decide +kernel
theorem dL_lays_33 : decode cL_lays 33 = .ok (.ldc2_w 18, 3) := by decide +kernel
theorem dL_lays_36 : decode cL_lays 36 = .ok (.lxor, 1) := by decide +kernel
theorem dL_lays_37 : decode cL_lays 37 = .ok (.land, 1) := by decide +kernel
theorem dL_lays_38 : decode cL_lays 38 = .ok (.lload_n 3, 1) := by decide +kernel
theorem dL_lays_39 : decode cL_lays 39 = .ok (.ldc2_w 16, 3) := by decide +kernel
theorem dL_lays_42 : decode cL_lays 42 = .ok (.land, 1) := by decide +kernel
theorem dL_lays_43 : decode cL_lays 43 = .ok (.iload 6, 2) := by decide +kernel
theorem dL_lays_45 : decode cL_lays 45 = .ok (.lshl, 1) := by decide +kernel
theorem dL_lays_46 : decode cL_lays 46 = .ok (.lor, 1) := by decide +kernel
theorem dL_lays_47 : decode cL_lays 47 = .ok (.lastore, 1) := by decide +kernel
theorem dL_lays_48 : decode cL_lays 48 = .ok (.return_, 1) := by decide +kernel
theorem dL_byteAt_0 : decode cL_byteAt 0 = .ok (.aload_n 0, 1) := by decide +kernel
theorem dL_byteAt_1 : decode cL_byteAt 1 = .ok (.bipush 8, 2) := by decide +kernel
theorem dL_byteAt_3 : decode cL_byteAt 3 = .ok (.iload_n 1, 1) := by decide +kernel
theorem dL_byteAt_4 : decode cL_byteAt 4 = .ok (.imul, 1) := by decide +kernel
theorem dL_byteAt_5 : decode cL_byteAt 5 = .ok (.iload_n 2, 1) := by decide +kernel
theorem dL_byteAt_6 : decode cL_byteAt 6 = .ok (.bipush 8, 2) := by decide +kernel
theorem dL_byteAt_8 : decode cL_byteAt 8 = .ok (.idiv, 1) := by decide +kernel
theorem dL_byteAt_9 : decode cL_byteAt 9 = .ok (.iadd, 1) := by decide +kernel
theorem dL_byteAt_10 : decode cL_byteAt 10 = .ok (.laload, 1) := by decide +kernel
theorem dL_byteAt_11 : decode cL_byteAt 11 = .ok (.bipush 8, 2) := by decide +kernel
theorem dL_byteAt_13 : decode cL_byteAt 13 = .ok (.iload_n 2, 1) := by decide +kernel
theorem dL_byteAt_14 : decode cL_byteAt 14 = .ok (.bipush 8, 2) := by decide +kernel
theorem dL_byteAt_16 : decode cL_byteAt 16 = .ok (.irem, 1) := by decide +kernel
theorem dL_byteAt_17 : decode cL_byteAt 17 = .ok (.imul, 1) := by decide +kernel
theorem dL_byteAt_18 : decode cL_byteAt 18 = .ok (.lshr, 1) := by decide +kernel
theorem dL_byteAt_19 : decode cL_byteAt 19 = .ok (.ldc2_w 16, 3) := by decide +kernel
theorem dL_byteAt_22 : decode cL_byteAt 22 = .ok (.land, 1) := by decide +kernel
theorem dL_byteAt_23 : decode cL_byteAt 23 = .ok (.l2i, 1) := by decide +kernel
theorem dL_byteAt_24 : decode cL_byteAt 24 = .ok (.ireturn, 1) := by decide +kernel
theorem dL_isInside_0 : decode cL_isInside 0 = .ok (.bipush 20, 2) := by decide +kernel
theorem dL_isInside_2 : decode cL_isInside 2 = .ok (.newarray .int, 2) := by decide +kernel
theorem dL_isInside_4 : decode cL_isInside 4 = .ok (.astore 4, 2) := by decide +kernel
theorem dL_isInside_6 : decode cL_isInside 6 = .ok (.iconst 1, 1) := by decide +kernel
theorem dL_isInside_7 : decode cL_isInside 7 = .ok (.istore 5, 2) := by decide +kernel
theorem dL_isInside_9 : decode cL_isInside 9 = .ok (.aload 4, 2) := by decide +kernel
theorem dL_isInside_11 : decode cL_isInside 11 = .ok (.iconst 0, 1) := by decide +kernel
theorem dL_isInside_12 : decode cL_isInside 12 = .ok (.iload_n 3, 1) := by decide +kernel
theorem dL_isInside_13 : decode cL_isInside 13 = .ok (.iastore, 1) := by decide +kernel
theorem dL_isInside_14 : decode cL_isInside 14 = .ok (.iload_n 2, 1) := by decide +kernel
theorem dL_isInside_15 : decode cL_isInside 15 = .ok (.iload_n 3, 1) := by decide +kernel
theorem dL_isInside_16 : decode cL_isInside 16 = .ok (.if_icmp .ne 7, 3) := by decide +kernel
theorem dL_isInside_19 : decode cL_isInside 19 = .ok (.iconst 1, 1) := by decide +kernel
theorem dL_isInside_20 : decode cL_isInside 20 = .ok (.goto 4, 3) := by decide +kernel
theorem dL_isInside_23 : decode cL_isInside 23 = .ok (.iconst 0, 1) := by decide +kernel
theorem dL_isInside_24 : decode cL_isInside 24 = .ok (.istore 6, 2) := by decide +kernel
theorem dL_isInside_26 : decode cL_isInside 26 = .ok (.iconst 0, 1) := by decide +kernel
theorem dL_isInside_27 : decode cL_isInside 27 = .ok (.istore 7, 2) := by decide +kernel
theorem dL_isInside_29 : decode cL_isInside 29 = .ok (.iload 7, 2) := by decide +kernel
theorem dL_isInside_31 : decode cL_isInside 31 = .ok (.iload 5, 2) := by decide +kernel
theorem dL_isInside_33 : decode cL_isInside 33 = .ok (.if_icmp .ge 165, 3) := by decide +kernel
theorem dL_isInside_36 : decode cL_isInside 36 = .ok (.iload 6, 2) := by decide +kernel
theorem dL_isInside_38 : decode cL_isInside 38 = .ok (.ifCond .ne 160, 3) := by decide +kernel
theorem dL_isInside_41 : decode cL_isInside 41 = .ok (.iconst 0, 1) := by decide +kernel
theorem dL_isInside_42 : decode cL_isInside 42 = .ok (.istore 8, 2) := by decide +kernel
theorem dL_isInside_44 : decode cL_isInside 44 = .ok (.iload 8, 2) := by decide +kernel
theorem dL_isInside_46 : decode cL_isInside 46 = .ok (.aload_n 0, 1) := by decide +kernel
theorem dL_isInside_47 : decode cL_isInside 47 = .ok (.iconst 0, 1) := by decide +kernel
theorem dL_isInside_48 : decode cL_isInside 48 = .ok (.iaload, 1) := by decide +kernel
theorem dL_isInside_49 : decode cL_isInside 49 = .ok (.if_icmp .ge 143, 3) := by decide +kernel
theorem dL_isInside_52 : decode cL_isInside 52 = .ok (.aload_n 1, 1) := by decide +kernel
theorem dL_isInside_53 : decode cL_isInside 53 = .ok (.iconst 4, 1) := by decide +kernel
theorem dL_isInside_54 : decode cL_isInside 54 = .ok (.iload 8, 2) := by decide +kernel
theorem dL_isInside_56 : decode cL_isInside 56 = .ok (.imul, 1) := by decide +kernel
theorem dL_isInside_57 : decode cL_isInside 57 = .ok (.iaload, 1) := by decide +kernel
theorem dL_isInside_58 : decode cL_isInside 58 = .ok (.aload 4, 2) := by decide +kernel
theorem dL_isInside_60 : decode cL_isInside 60 = .ok (.iload 7, 2) := by decide +kernel
theorem dL_isInside_62 : decode cL_isInside 62 = .ok (.iaload, 1) := by decide +kernel
theorem dL_isInside_63 : decode cL_isInside 63 = .ok (.if_icmp .ne 19, 3) := by decide +kernel
theorem dL_isInside_66 : decode cL_isInside 66 = .ok (.aload_n 1, 1) := by decide +kernel
theorem dL_isInside_67 : decode cL_isInside 67 = .ok (.iconst 4, 1) := by decide +kernel
theorem dL_isInside_68 : decode cL_isInside 68 = .ok (.iload 8, 2) := by decide +kernel
theorem dL_isInside_70 : decode cL_isInside 70 = .ok (.imul, 1) := by decide +kernel
theorem dL_isInside_71 : decode cL_isInside 71 = .ok (.iconst 3, 1) := by decide +kernel
theorem dL_isInside_72 : decode cL_isInside 72 = .ok (.iadd, 1) := by decide +kernel
theorem dL_isInside_73 : decode cL_isInside 73 = .ok (.iaload, 1) := by decide +kernel
theorem dL_isInside_74 : decode cL_isInside 74 = .ok (.iconst 1, 1) := by decide +kernel
theorem dL_isInside_75 : decode cL_isInside 75 = .ok (.if_icmp .ne 7, 3) := by decide +kernel
theorem dL_isInside_78 : decode cL_isInside 78 = .ok (.iconst 1, 1) := by decide +kernel
theorem dL_isInside_79 : decode cL_isInside 79 = .ok (.goto 4, 3) := by decide +kernel
theorem dL_isInside_82 : decode cL_isInside 82 = .ok (.iconst 0, 1) := by decide +kernel
theorem dL_isInside_83 : decode cL_isInside 83 = .ok (.istore 9, 2) := by decide +kernel
theorem dL_isInside_85 : decode cL_isInside 85 = .ok (.iconst 0, 1) := by decide +kernel
theorem dL_isInside_86 : decode cL_isInside 86 = .ok (.istore 10, 2) := by decide +kernel
theorem dL_isInside_88 : decode cL_isInside 88 = .ok (.iload 10, 2) := by decide +kernel
theorem dL_isInside_90 : decode cL_isInside 90 = .ok (.iload 5, 2) := by decide +kernel
theorem dL_isInside_92 : decode cL_isInside 92 = .ok (.if_icmp .ge 37, 3) := by decide +kernel
theorem dL_isInside_95 : decode cL_isInside 95 = .ok (.iload 9, 2) := by decide +kernel
theorem dL_isInside_97 : decode cL_isInside 97 = .ok (.ifCond .eq 23, 3) := by decide +kernel
theorem dL_isInside_100 : decode cL_isInside 100 = .ok (.aload 4, 2) := by decide +kernel
theorem dL_isInside_102 : decode cL_isInside 102 = .ok (.iload 10, 2) := by decide +kernel
theorem dL_isInside_104 : decode cL_isInside 104 = .ok (.iaload, 1) := by decide +kernel
theorem dL_isInside_105 : decode cL_isInside 105 = .ok (.aload_n 1, 1) := by decide +kernel
theorem dL_isInside_106 : decode cL_isInside 106 = .ok (.iconst 4, 1) := by decide +kernel
theorem dL_isInside_107 : decode cL_isInside 107 = .ok (.iload 8, 2) := by decide +kernel
theorem dL_isInside_109 : decode cL_isInside 109 = .ok (.imul, 1) := by decide +kernel
theorem dL_isInside_110 : decode cL_isInside 110 = .ok (.iconst 2, 1) := by decide +kernel
theorem dL_isInside_111 : decode cL_isInside 111 = .ok (.iadd, 1) := by decide +kernel
theorem dL_isInside_112 : decode cL_isInside 112 = .ok (.iaload, 1) := by decide +kernel
theorem dL_isInside_113 : decode cL_isInside 113 = .ok (.if_icmp .eq 7, 3) := by decide +kernel
theorem dL_isInside_116 : decode cL_isInside 116 = .ok (.iconst 1, 1) := by decide +kernel
theorem dL_isInside_117 : decode cL_isInside 117 = .ok (.goto 4, 3) := by decide +kernel
theorem dL_isInside_120 : decode cL_isInside 120 = .ok (.iconst 0, 1) := by decide +kernel
theorem dL_isInside_121 : decode cL_isInside 121 = .ok (.istore 9, 2) := by decide +kernel
theorem dL_isInside_123 : decode cL_isInside 123 = .ok (.iinc 10 1, 3) := by decide +kernel
theorem dL_isInside_126 : decode cL_isInside 126 = .ok (.goto (-38), 3) := by decide +kernel
theorem dL_isInside_129 : decode cL_isInside 129 = .ok (.iload 6, 2) := by decide +kernel
theorem dL_isInside_131 : decode cL_isInside 131 = .ok (.ifCond .ne 20, 3) := by decide +kernel
theorem dL_isInside_134 : decode cL_isInside 134 = .ok (.iload 9, 2) := by decide +kernel
theorem dL_isInside_136 : decode cL_isInside 136 = .ok (.ifCond .eq 19, 3) := by decide +kernel
theorem dL_isInside_139 : decode cL_isInside 139 = .ok (.aload_n 1, 1) := by decide +kernel
theorem dL_isInside_140 : decode cL_isInside 140 = .ok (.iconst 4, 1) := by decide +kernel
theorem dL_isInside_141 : decode cL_isInside 141 = .ok (.iload 8, 2) := by decide +kernel
theorem dL_isInside_143 : decode cL_isInside 143 = .ok (.imul, 1) := by decide +kernel
theorem dL_isInside_144 : decode cL_isInside 144 = .ok (.iconst 2, 1) := by decide +kernel
theorem dL_isInside_145 : decode cL_isInside 145 = .ok (.iadd, 1) := by decide +kernel
theorem dL_isInside_146 : decode cL_isInside 146 = .ok (.iaload, 1) := by decide +kernel
theorem dL_isInside_147 : decode cL_isInside 147 = .ok (.iload_n 2, 1) := by decide +kernel
theorem dL_isInside_148 : decode cL_isInside 148 = .ok (.if_icmp .ne 7, 3) := by decide +kernel
theorem dL_isInside_151 : decode cL_isInside 151 = .ok (.iconst 1, 1) := by decide +kernel
theorem dL_isInside_152 : decode cL_isInside 152 = .ok (.goto 4, 3) := by decide +kernel
theorem dL_isInside_155 : decode cL_isInside 155 = .ok (.iconst 0, 1) := by decide +kernel
theorem dL_isInside_156 : decode cL_isInside 156 = .ok (.istore 6, 2) := by decide +kernel
theorem dL_isInside_158 : decode cL_isInside 158 = .ok (.aload 4, 2) := by decide +kernel
theorem dL_isInside_160 : decode cL_isInside 160 = .ok (.iload 5, 2) := by decide +kernel
theorem dL_isInside_162 : decode cL_isInside 162 = .ok (.aload_n 1, 1) := by decide +kernel
theorem dL_isInside_163 : decode cL_isInside 163 = .ok (.iconst 4, 1) := by decide +kernel
theorem dL_isInside_164 : decode cL_isInside 164 = .ok (.iload 8, 2) := by decide +kernel
theorem dL_isInside_166 : decode cL_isInside 166 = .ok (.imul, 1) := by decide +kernel
theorem dL_isInside_167 : decode cL_isInside 167 = .ok (.iconst 2, 1) := by decide +kernel
theorem dL_isInside_168 : decode cL_isInside 168 = .ok (.iadd, 1) := by decide +kernel
theorem dL_isInside_169 : decode cL_isInside 169 = .ok (.iaload, 1) := by decide +kernel
theorem dL_isInside_170 : decode cL_isInside 170 = .ok (.iastore, 1) := by decide +kernel
theorem dL_isInside_171 : decode cL_isInside 171 = .ok (.iload 5, 2) := by decide +kernel
theorem dL_isInside_173 : decode cL_isInside 173 = .ok (.iload 9, 2) := by decide +kernel
theorem dL_isInside_175 : decode cL_isInside 175 = .ok (.ifCond .eq 7, 3) := by decide +kernel
theorem dL_isInside_178 : decode cL_isInside 178 = .ok (.iconst 1, 1) := by decide +kernel
theorem dL_isInside_179 : decode cL_isInside 179 = .ok (.goto 4, 3) := by decide +kernel
theorem dL_isInside_182 : decode cL_isInside 182 = .ok (.iconst 0, 1) := by decide +kernel
theorem dL_isInside_183 : decode cL_isInside 183 = .ok (.iadd, 1) := by decide +kernel
theorem dL_isInside_184 : decode cL_isInside 184 = .ok (.istore 5, 2) := by decide +kernel
theorem dL_isInside_186 : decode cL_isInside 186 = .ok (.iinc 8 1, 3) := by decide +kernel
theorem dL_isInside_189 : decode cL_isInside 189 = .ok (.goto (-145), 3) := by decide +kernel
theorem dL_isInside_192 : decode cL_isInside 192 = .ok (.iinc 7 1, 3) := by decide +kernel
theorem dL_isInside_195 : decode cL_isInside 195 = .ok (.goto (-166), 3) := by decide +kernel
theorem dL_isInside_198 : decode cL_isInside 198 = .ok (.iload 6, 2) := by decide +kernel
theorem dL_isInside_200 : decode cL_isInside 200 = .ok (.ireturn, 1) := by decide +kernel
theorem dL_does_0 : decode cL_does 0 = .ok (.iload_n 1, 1) := by decide +kernel
theorem dL_does_1 : decode cL_does 1 = .ok (.ifCond .ne 12, 3) := by decide +kernel
theorem dL_does_4 : decode cL_does 4 = .ok (.aload_n 0, 1) := by decide +kernel
theorem dL_does_5 : decode cL_does 5 = .ok (.iload_n 2, 1) := by decide +kernel
theorem dL_does_6 : decode cL_does 6 = .ok (.iload_n 3, 1) := by decide +kernel
theorem dL_does_7 : decode cL_does 7 = .ok (.invokevirtual 20, 3) := by decide +kernel
theorem dL_does_10 : decode cL_does 10 = .ok (.goto 123, 3) := by decide +kernel
theorem dL_does_13 : decode cL_does 13 = .ok (.iload_n 1, 1) := by decide +kernel
theorem dL_does_14 : decode cL_does 14 = .ok (.iconst 1, 1) := by decide +kernel
theorem dL_does_15 : decode cL_does 15 = .ok (.if_icmp .ne 12, 3) := by decide +kernel
theorem dL_does_18 : decode cL_does 18 = .ok (.aload_n 0, 1) := by decide +kernel
theorem dL_does_19 : decode cL_does 19 = .ok (.iload_n 2, 1) := by decide +kernel
theorem dL_does_20 : decode cL_does 20 = .ok (.iload_n 3, 1) := by decide +kernel
theorem dL_does_21 : decode cL_does 21 = .ok (.invokevirtual 26, 3) := by decide +kernel
theorem dL_does_24 : decode cL_does 24 = .ok (.goto 109, 3) := by decide +kernel
theorem dL_does_27 : decode cL_does 27 = .ok (.iload_n 1, 1) := by decide +kernel
theorem dL_does_28 : decode cL_does 28 = .ok (.iconst 2, 1) := by decide +kernel
theorem dL_does_29 : decode cL_does 29 = .ok (.if_icmp .ne 14, 3) := by decide +kernel
theorem dL_does_32 : decode cL_does 32 = .ok (.aload_n 0, 1) := by decide +kernel
theorem dL_does_33 : decode cL_does 33 = .ok (.iload_n 2, 1) := by decide +kernel
theorem dL_does_34 : decode cL_does 34 = .ok (.iload_n 3, 1) := by decide +kernel
theorem dL_does_35 : decode cL_does 35 = .ok (.iload 4, 2) := by decide +kernel
theorem dL_does_37 : decode cL_does 37 = .ok (.invokevirtual 29, 3) := by decide +kernel
theorem dL_does_40 : decode cL_does 40 = .ok (.goto 93, 3) := by decide +kernel
theorem dL_does_43 : decode cL_does 43 = .ok (.iload_n 1, 1) := by decide +kernel
theorem dL_does_44 : decode cL_does 44 = .ok (.iconst 3, 1) := by decide +kernel
theorem dL_does_45 : decode cL_does 45 = .ok (.if_icmp .ne 12, 3) := by decide +kernel
theorem dL_does_48 : decode cL_does 48 = .ok (.aload_n 0, 1) := by decide +kernel
theorem dL_does_49 : decode cL_does 49 = .ok (.iload_n 2, 1) := by decide +kernel
theorem dL_does_50 : decode cL_does 50 = .ok (.iload_n 3, 1) := by decide +kernel
theorem dL_does_51 : decode cL_does 51 = .ok (.invokevirtual 33, 3) := by decide +kernel
theorem dL_does_54 : decode cL_does 54 = .ok (.goto 79, 3) := by decide +kernel
theorem dL_does_57 : decode cL_does 57 = .ok (.iload_n 1, 1) := by decide +kernel
theorem dL_does_58 : decode cL_does 58 = .ok (.iconst 4, 1) := by decide +kernel
theorem dL_does_59 : decode cL_does 59 = .ok (.if_icmp .ne 12, 3) := by decide +kernel
theorem dL_does_62 : decode cL_does 62 = .ok (.aload_n 0, 1) := by decide +kernel
theorem dL_does_63 : decode cL_does 63 = .ok (.iload_n 2, 1) := by decide +kernel
theorem dL_does_64 : decode cL_does 64 = .ok (.iload_n 3, 1) := by decide +kernel
theorem dL_does_65 : decode cL_does 65 = .ok (.invokevirtual 36, 3) := by decide +kernel
theorem dL_does_68 : decode cL_does 68 = .ok (.goto 65, 3) := by decide +kernel
theorem dL_does_71 : decode cL_does 71 = .ok (.iload_n 1, 1) := by decide +kernel
theorem dL_does_72 : decode cL_does 72 = .ok (.iconst 5, 1) := by decide +kernel
theorem dL_does_73 : decode cL_does 73 = .ok (.if_icmp .ne 11, 3) := by decide +kernel
theorem dL_does_76 : decode cL_does 76 = .ok (.aload_n 0, 1) := by decide +kernel
theorem dL_does_77 : decode cL_does 77 = .ok (.iload_n 2, 1) := by decide +kernel
theorem dL_does_78 : decode cL_does 78 = .ok (.invokevirtual 39, 3) := by decide +kernel
theorem dL_does_81 : decode cL_does 81 = .ok (.goto 52, 3) := by decide +kernel
theorem dL_does_84 : decode cL_does 84 = .ok (.iload_n 1, 1) := by decide +kernel
theorem dL_does_85 : decode cL_does 85 = .ok (.bipush 6, 2) := by decide +kernel
theorem dL_does_87 : decode cL_does 87 = .ok (.if_icmp .ne 12, 3) := by decide +kernel
theorem dL_does_90 : decode cL_does 90 = .ok (.aload_n 0, 1) := by decide +kernel
theorem dL_does_91 : decode cL_does 91 = .ok (.iload_n 2, 1) := by decide +kernel
theorem dL_does_92 : decode cL_does 92 = .ok (.iload_n 3, 1) := by decide +kernel
theorem dL_does_93 : decode cL_does 93 = .ok (.invokevirtual 43, 3) := by decide +kernel
theorem dL_does_96 : decode cL_does 96 = .ok (.goto 37, 3) := by decide +kernel
theorem dL_does_99 : decode cL_does 99 = .ok (.iload_n 1, 1) := by decide +kernel
theorem dL_does_100 : decode cL_does 100 = .ok (.bipush 7, 2) := by decide +kernel
theorem dL_does_102 : decode cL_does 102 = .ok (.if_icmp .ne 11, 3) := by decide +kernel
theorem dL_does_105 : decode cL_does 105 = .ok (.aload_n 0, 1) := by decide +kernel
theorem dL_does_106 : decode cL_does 106 = .ok (.iload_n 2, 1) := by decide +kernel
theorem dL_does_107 : decode cL_does 107 = .ok (.invokevirtual 46, 3) := by decide +kernel
theorem dL_does_110 : decode cL_does 110 = .ok (.goto 23, 3) := by decide +kernel
theorem dL_does_113 : decode cL_does 113 = .ok (.iload_n 1, 1) := by decide +kernel
theorem dL_does_114 : decode cL_does 114 = .ok (.bipush 8, 2) := by decide +kernel
theorem dL_does_116 : decode cL_does 116 = .ok (.if_icmp .ne 12, 3) := by decide +kernel
theorem dL_does_119 : decode cL_does 119 = .ok (.aload_n 0, 1) := by decide +kernel
theorem dL_does_120 : decode cL_does 120 = .ok (.iload_n 2, 1) := by decide +kernel
theorem dL_does_121 : decode cL_does 121 = .ok (.iload_n 3, 1) := by decide +kernel
theorem dL_does_122 : decode cL_does 122 = .ok (.invokevirtual 49, 3) := by decide +kernel
theorem dL_does_125 : decode cL_does 125 = .ok (.goto 8, 3) := by decide +kernel
theorem dL_does_128 : decode cL_does 128 = .ok (.aload_n 0, 1) := by decide +kernel
theorem dL_does_129 : decode cL_does 129 = .ok (.iload_n 2, 1) := by decide +kernel
theorem dL_does_130 : decode cL_does 130 = .ok (.invokevirtual 52, 3) := by decide +kernel
theorem dL_does_133 : decode cL_does 133 = .ok (.ireturn, 1) := by decide +kernel
theorem dL_does_134 : decode cL_does 134 = .ok (.astore 5, 2) := by decide +kernel
theorem dL_does_136 : decode cL_does 136 = .ok (.bipush (-11), 2) := by decide +kernel
theorem dL_does_138 : decode cL_does 138 = .ok (.ireturn, 1) := by decide +kernel
theorem dL_does_139 : decode cL_does 139 = .ok (.astore 5, 2) := by decide +kernel
theorem dL_does_141 : decode cL_does 141 = .ok (.bipush (-12), 2) := by decide +kernel
theorem dL_does_143 : decode cL_does 143 = .ok (.ireturn, 1) := by decide +kernel
theorem dL_does_144 : decode cL_does 144 = .ok (.astore 5, 2) := by decide +kernel
theorem dL_does_146 : decode cL_does 146 = .ok (.bipush (-13), 2) := by decide +kernel
theorem dL_does_148 : decode cL_does 148 = .ok (.ireturn, 1) := by decide +kernel
theorem dL_renames_0 : decode cL_renames 0 = .ok (.aload_n 0, 1) := by decide +kernel
theorem dL_renames_1 : decode cL_renames 1 = .ok (.iload_n 1, 1) := by decide +kernel
theorem dL_renames_2 : decode cL_renames 2 = .ok (.iload_n 2, 1) := by decide +kernel
theorem dL_renames_3 : decode cL_renames 3 = .ok (.iload_n 3, 1) := by decide +kernel
theorem dL_renames_4 : decode cL_renames 4 = .ok (.iload 4, 2) := by decide +kernel
theorem dL_renames_6 : decode cL_renames 6 = .ok (.invokevirtual 61, 3) := by decide +kernel
theorem dL_renames_9 : decode cL_renames 9 = .ok (.ireturn, 1) := by decide +kernel
theorem dL_renames_10 : decode cL_renames 10 = .ok (.astore 5, 2) := by decide +kernel
theorem dL_renames_12 : decode cL_renames 12 = .ok (.bipush (-11), 2) := by decide +kernel
theorem dL_renames_14 : decode cL_renames 14 = .ok (.ireturn, 1) := by decide +kernel
theorem dL_renames_15 : decode cL_renames 15 = .ok (.astore 5, 2) := by decide +kernel
theorem dL_renames_17 : decode cL_renames 17 = .ok (.bipush (-12), 2) := by decide +kernel
theorem dL_renames_19 : decode cL_renames 19 = .ok (.ireturn, 1) := by decide +kernel
theorem dL_renames_20 : decode cL_renames 20 = .ok (.astore 5, 2) := by decide +kernel
theorem dL_renames_22 : decode cL_renames 22 = .ok (.bipush (-13), 2) := by decide +kernel
theorem dL_renames_24 : decode cL_renames 24 = .ok (.ireturn, 1) := by decide +kernel
theorem dL_writes_0 : decode cL_writes 0 = .ok (.aload_n 0, 1) := by decide +kernel
theorem dL_writes_1 : decode cL_writes 1 = .ok (.iload_n 1, 1) := by decide +kernel
theorem dL_writes_2 : decode cL_writes 2 = .ok (.iload_n 2, 1) := by decide +kernel
theorem dL_writes_3 : decode cL_writes 3 = .ok (.lload_n 3, 1) := by decide +kernel
theorem dL_writes_4 : decode cL_writes 4 = .ok (.iload 5, 2) := by decide +kernel
theorem dL_writes_6 : decode cL_writes 6 = .ok (.invokevirtual 65, 3) := by decide +kernel
theorem dL_writes_9 : decode cL_writes 9 = .ok (.ireturn, 1) := by decide +kernel
theorem dL_writes_10 : decode cL_writes 10 = .ok (.astore 6, 2) := by decide +kernel
theorem dL_writes_12 : decode cL_writes 12 = .ok (.bipush (-11), 2) := by decide +kernel
theorem dL_writes_14 : decode cL_writes 14 = .ok (.ireturn, 1) := by decide +kernel
theorem dL_writes_15 : decode cL_writes 15 = .ok (.astore 6, 2) := by decide +kernel
theorem dL_writes_17 : decode cL_writes 17 = .ok (.bipush (-12), 2) := by decide +kernel
theorem dL_writes_19 : decode cL_writes 19 = .ok (.ireturn, 1) := by decide +kernel
theorem dL_writes_20 : decode cL_writes 20 = .ok (.astore 6, 2) := by decide +kernel
theorem dL_writes_22 : decode cL_writes 22 = .ok (.bipush (-13), 2) := by decide +kernel
theorem dL_writes_24 : decode cL_writes 24 = .ok (.ireturn, 1) := by decide +kernel
theorem dL_frees_0 : decode cL_frees 0 = .ok (.iconst 0, 1) := by decide +kernel
theorem dL_frees_1 : decode cL_frees 1 = .ok (.istore_n 1, 1) := by decide +kernel
theorem dL_frees_2 : decode cL_frees 2 = .ok (.iconst 0, 1) := by decide +kernel
theorem dL_frees_3 : decode cL_frees 3 = .ok (.istore_n 2, 1) := by decide +kernel
theorem dL_frees_4 : decode cL_frees 4 = .ok (.iload_n 2, 1) := by decide +kernel
theorem dL_frees_5 : decode cL_frees 5 = .ok (.bipush 8, 2) := by decide +kernel
theorem dL_frees_7 : decode cL_frees 7 = .ok (.if_icmp .ge 25, 3) := by decide +kernel
theorem dL_frees_10 : decode cL_frees 10 = .ok (.iload_n 1, 1) := by decide +kernel
theorem dL_frees_11 : decode cL_frees 11 = .ok (.aload_n 0, 1) := by decide +kernel
theorem dL_frees_12 : decode cL_frees 12 = .ok (.iload_n 2, 1) := by decide +kernel
theorem dL_frees_13 : decode cL_frees 13 = .ok (.invokevirtual 69, 3) := by decide +kernel
theorem dL_frees_16 : decode cL_frees 16 = .ok (.ifCond .ne 7, 3) := by decide +kernel
theorem dL_frees_19 : decode cL_frees 19 = .ok (.iconst 1, 1) := by decide +kernel
theorem dL_frees_20 : decode cL_frees 20 = .ok (.goto 4, 3) := by decide +kernel
theorem dL_frees_23 : decode cL_frees 23 = .ok (.iconst 0, 1) := by decide +kernel
theorem dL_frees_24 : decode cL_frees 24 = .ok (.iadd, 1) := by decide +kernel
theorem dL_frees_25 : decode cL_frees 25 = .ok (.istore_n 1, 1) := by decide +kernel
theorem dL_frees_26 : decode cL_frees 26 = .ok (.iinc 2 1, 3) := by decide +kernel
theorem dL_frees_29 : decode cL_frees 29 = .ok (.goto (-25), 3) := by decide +kernel
theorem dL_frees_32 : decode cL_frees 32 = .ok (.iload_n 1, 1) := by decide +kernel
theorem dL_frees_33 : decode cL_frees 33 = .ok (.ireturn, 1) := by decide +kernel
theorem dL_isSystem_0 : decode cL_isSystem 0 = .ok (.aload_n 0, 1) := by decide +kernel
theorem dL_isSystem_1 : decode cL_isSystem 1 = .ok (.invokevirtual 72, 3) := by decide +kernel
theorem dL_isSystem_4 : decode cL_isSystem 4 = .ok (.ifCond .ne 37, 3) := by decide +kernel
theorem dL_isSystem_7 : decode cL_isSystem 7 = .ok (.aload_n 0, 1) := by decide +kernel
theorem dL_isSystem_8 : decode cL_isSystem 8 = .ok (.iconst 1, 1) := by decide +kernel
theorem dL_isSystem_9 : decode cL_isSystem 9 = .ok (.invokevirtual 46, 3) := by decide +kernel
theorem dL_isSystem_12 : decode cL_isSystem 12 = .ok (.aload_n 1, 1) := by decide +kernel
theorem dL_isSystem_13 : decode cL_isSystem 13 = .ok (.aload_n 2, 1) := by decide +kernel
theorem dL_isSystem_14 : decode cL_isSystem 14 = .ok (.iconst 1, 1) := by decide +kernel
theorem dL_isSystem_15 : decode cL_isSystem 15 = .ok (.invokestatic 76, 3) := by decide +kernel
theorem dL_isSystem_18 : decode cL_isSystem 18 = .ok (.if_icmp .ne 23, 3) := by decide +kernel
theorem dL_isSystem_21 : decode cL_isSystem 21 = .ok (.aload_n 0, 1) := by decide +kernel
theorem dL_isSystem_22 : decode cL_isSystem 22 = .ok (.iconst 1, 1) := by decide +kernel
theorem dL_isSystem_23 : decode cL_isSystem 23 = .ok (.invokevirtual 79, 3) := by decide +kernel
theorem dL_isSystem_26 : decode cL_isSystem 26 = .ok (.ifCond .ne 15, 3) := by decide +kernel
theorem dL_isSystem_29 : decode cL_isSystem 29 = .ok (.aload_n 0, 1) := by decide +kernel
theorem dL_isSystem_30 : decode cL_isSystem 30 = .ok (.iconst 1, 1) := by decide +kernel
theorem dL_isSystem_31 : decode cL_isSystem 31 = .ok (.invokevirtual 81, 3) := by decide +kernel
theorem dL_isSystem_34 : decode cL_isSystem 34 = .ok (.ifCond .eq 7, 3) := by decide +kernel
theorem dL_isSystem_37 : decode cL_isSystem 37 = .ok (.iconst 1, 1) := by decide +kernel
theorem dL_isSystem_38 : decode cL_isSystem 38 = .ok (.goto 4, 3) := by decide +kernel
theorem dL_isSystem_41 : decode cL_isSystem 41 = .ok (.iconst 0, 1) := by decide +kernel
theorem dL_isSystem_42 : decode cL_isSystem 42 = .ok (.istore 7, 2) := by decide +kernel
theorem dL_isSystem_44 : decode cL_isSystem 44 = .ok (.iconst 0, 1) := by decide +kernel
theorem dL_isSystem_45 : decode cL_isSystem 45 = .ok (.istore 8, 2) := by decide +kernel
theorem dL_isSystem_47 : decode cL_isSystem 47 = .ok (.iload 8, 2) := by decide +kernel
theorem dL_isSystem_49 : decode cL_isSystem 49 = .ok (.aload_n 1, 1) := by decide +kernel
theorem dL_isSystem_50 : decode cL_isSystem 50 = .ok (.iconst 0, 1) := by decide +kernel
theorem dL_isSystem_51 : decode cL_isSystem 51 = .ok (.iaload, 1) := by decide +kernel
theorem dL_isSystem_52 : decode cL_isSystem 52 = .ok (.if_icmp .ge 237, 3) := by decide +kernel
theorem dL_isSystem_55 : decode cL_isSystem 55 = .ok (.iload 7, 2) := by decide +kernel
theorem dL_isSystem_57 : decode cL_isSystem 57 = .ok (.ifCond .eq 232, 3) := by decide +kernel
theorem dL_isSystem_60 : decode cL_isSystem 60 = .ok (.aload_n 2, 1) := by decide +kernel
theorem dL_isSystem_61 : decode cL_isSystem 61 = .ok (.iconst 4, 1) := by decide +kernel
theorem dL_isSystem_62 : decode cL_isSystem 62 = .ok (.iload 8, 2) := by decide +kernel
theorem dL_isSystem_64 : decode cL_isSystem 64 = .ok (.imul, 1) := by decide +kernel
theorem dL_isSystem_65 : decode cL_isSystem 65 = .ok (.iaload, 1) := by decide +kernel
theorem dL_isSystem_66 : decode cL_isSystem 66 = .ok (.istore 9, 2) := by decide +kernel
theorem dL_isSystem_68 : decode cL_isSystem 68 = .ok (.aload_n 2, 1) := by decide +kernel
theorem dL_isSystem_69 : decode cL_isSystem 69 = .ok (.iconst 4, 1) := by decide +kernel
theorem dL_isSystem_70 : decode cL_isSystem 70 = .ok (.iload 8, 2) := by decide +kernel
theorem dL_isSystem_72 : decode cL_isSystem 72 = .ok (.imul, 1) := by decide +kernel
theorem dL_isSystem_73 : decode cL_isSystem 73 = .ok (.iconst 2, 1) := by decide +kernel
theorem dL_isSystem_74 : decode cL_isSystem 74 = .ok (.iadd, 1) := by decide +kernel
theorem dL_isSystem_75 : decode cL_isSystem 75 = .ok (.iaload, 1) := by decide +kernel
theorem dL_isSystem_76 : decode cL_isSystem 76 = .ok (.istore 10, 2) := by decide +kernel
theorem dL_isSystem_78 : decode cL_isSystem 78 = .ok (.iconst 0, 1) := by decide +kernel
theorem dL_isSystem_79 : decode cL_isSystem 79 = .ok (.istore 11, 2) := by decide +kernel
theorem dL_isSystem_81 : decode cL_isSystem 81 = .ok (.iconst 0, 1) := by decide +kernel
theorem dL_isSystem_82 : decode cL_isSystem 82 = .ok (.istore 12, 2) := by decide +kernel
theorem dL_isSystem_84 : decode cL_isSystem 84 = .ok (.iload 12, 2) := by decide +kernel
theorem dL_isSystem_86 : decode cL_isSystem 86 = .ok (.aload_n 1, 1) := by decide +kernel
theorem dL_isSystem_87 : decode cL_isSystem 87 = .ok (.iconst 0, 1) := by decide +kernel
theorem dL_isSystem_88 : decode cL_isSystem 88 = .ok (.iaload, 1) := by decide +kernel
theorem dL_isSystem_89 : decode cL_isSystem 89 = .ok (.if_icmp .ge 49, 3) := by decide +kernel
theorem dL_isSystem_92 : decode cL_isSystem 92 = .ok (.iload 11, 2) := by decide +kernel
theorem dL_isSystem_94 : decode cL_isSystem 94 = .ok (.aload_n 2, 1) := by decide +kernel
theorem dL_isSystem_95 : decode cL_isSystem 95 = .ok (.iconst 4, 1) := by decide +kernel
theorem dL_isSystem_96 : decode cL_isSystem 96 = .ok (.iload 12, 2) := by decide +kernel
theorem dL_isSystem_98 : decode cL_isSystem 98 = .ok (.imul, 1) := by decide +kernel
theorem dL_isSystem_99 : decode cL_isSystem 99 = .ok (.iaload, 1) := by decide +kernel
theorem dL_isSystem_100 : decode cL_isSystem 100 = .ok (.iload 9, 2) := by decide +kernel
theorem dL_isSystem_102 : decode cL_isSystem 102 = .ok (.if_icmp .ne 26, 3) := by decide +kernel
theorem dL_isSystem_105 : decode cL_isSystem 105 = .ok (.aload_n 2, 1) := by decide +kernel
theorem dL_isSystem_106 : decode cL_isSystem 106 = .ok (.iconst 4, 1) := by decide +kernel
theorem dL_isSystem_107 : decode cL_isSystem 107 = .ok (.iload 12, 2) := by decide +kernel
theorem dL_isSystem_109 : decode cL_isSystem 109 = .ok (.imul, 1) := by decide +kernel
theorem dL_isSystem_110 : decode cL_isSystem 110 = .ok (.iconst 1, 1) := by decide +kernel
theorem dL_isSystem_111 : decode cL_isSystem 111 = .ok (.iadd, 1) := by decide +kernel
theorem dL_isSystem_112 : decode cL_isSystem 112 = .ok (.iaload, 1) := by decide +kernel
theorem dL_isSystem_113 : decode cL_isSystem 113 = .ok (.aload_n 2, 1) := by decide +kernel
theorem dL_isSystem_114 : decode cL_isSystem 114 = .ok (.iconst 4, 1) := by decide +kernel
theorem dL_isSystem_115 : decode cL_isSystem 115 = .ok (.iload 8, 2) := by decide +kernel
theorem dL_isSystem_117 : decode cL_isSystem 117 = .ok (.imul, 1) := by decide +kernel
theorem dL_isSystem_118 : decode cL_isSystem 118 = .ok (.iconst 1, 1) := by decide +kernel
theorem dL_isSystem_119 : decode cL_isSystem 119 = .ok (.iadd, 1) := by decide +kernel
theorem dL_isSystem_120 : decode cL_isSystem 120 = .ok (.iaload, 1) := by decide +kernel
theorem dL_isSystem_121 : decode cL_isSystem 121 = .ok (.if_icmp .ge 7, 3) := by decide +kernel
theorem dL_isSystem_124 : decode cL_isSystem 124 = .ok (.iconst 1, 1) := by decide +kernel
theorem dL_isSystem_125 : decode cL_isSystem 125 = .ok (.goto 4, 3) := by decide +kernel
theorem dL_isSystem_128 : decode cL_isSystem 128 = .ok (.iconst 0, 1) := by decide +kernel
theorem dL_isSystem_129 : decode cL_isSystem 129 = .ok (.iadd, 1) := by decide +kernel
theorem dL_isSystem_130 : decode cL_isSystem 130 = .ok (.istore 11, 2) := by decide +kernel
theorem dL_isSystem_132 : decode cL_isSystem 132 = .ok (.iinc 12 1, 3) := by decide +kernel
theorem dL_isSystem_135 : decode cL_isSystem 135 = .ok (.goto (-51), 3) := by decide +kernel
theorem dL_isSystem_138 : decode cL_isSystem 138 = .ok (.aload_n 0, 1) := by decide +kernel
theorem dL_isSystem_139 : decode cL_isSystem 139 = .ok (.iload 9, 2) := by decide +kernel
theorem dL_isSystem_141 : decode cL_isSystem 141 = .ok (.aload_n 2, 1) := by decide +kernel
theorem dL_isSystem_142 : decode cL_isSystem 142 = .ok (.iconst 4, 1) := by decide +kernel
theorem dL_isSystem_143 : decode cL_isSystem 143 = .ok (.iload 8, 2) := by decide +kernel
theorem dL_isSystem_145 : decode cL_isSystem 145 = .ok (.imul, 1) := by decide +kernel
theorem dL_isSystem_146 : decode cL_isSystem 146 = .ok (.iconst 1, 1) := by decide +kernel
theorem dL_isSystem_147 : decode cL_isSystem 147 = .ok (.iadd, 1) := by decide +kernel
theorem dL_isSystem_148 : decode cL_isSystem 148 = .ok (.iaload, 1) := by decide +kernel
theorem dL_isSystem_149 : decode cL_isSystem 149 = .ok (.invokevirtual 43, 3) := by decide +kernel
theorem dL_isSystem_152 : decode cL_isSystem 152 = .ok (.iload 10, 2) := by decide +kernel
theorem dL_isSystem_154 : decode cL_isSystem 154 = .ok (.if_icmp .ne 126, 3) := by decide +kernel
theorem dL_isSystem_157 : decode cL_isSystem 157 = .ok (.aload_n 0, 1) := by decide +kernel
theorem dL_isSystem_158 : decode cL_isSystem 158 = .ok (.iload 10, 2) := by decide +kernel
theorem dL_isSystem_160 : decode cL_isSystem 160 = .ok (.invokevirtual 81, 3) := by decide +kernel
theorem dL_isSystem_163 : decode cL_isSystem 163 = .ok (.aload_n 2, 1) := by decide +kernel
theorem dL_isSystem_164 : decode cL_isSystem 164 = .ok (.iconst 4, 1) := by decide +kernel
theorem dL_isSystem_165 : decode cL_isSystem 165 = .ok (.iload 8, 2) := by decide +kernel
theorem dL_isSystem_167 : decode cL_isSystem 167 = .ok (.imul, 1) := by decide +kernel
theorem dL_isSystem_168 : decode cL_isSystem 168 = .ok (.iconst 3, 1) := by decide +kernel
theorem dL_isSystem_169 : decode cL_isSystem 169 = .ok (.iadd, 1) := by decide +kernel
theorem dL_isSystem_170 : decode cL_isSystem 170 = .ok (.iaload, 1) := by decide +kernel
theorem dL_isSystem_171 : decode cL_isSystem 171 = .ok (.iconst 1, 1) := by decide +kernel
theorem dL_isSystem_172 : decode cL_isSystem 172 = .ok (.if_icmp .ne 7, 3) := by decide +kernel
theorem dL_isSystem_175 : decode cL_isSystem 175 = .ok (.iconst 1, 1) := by decide +kernel
theorem dL_isSystem_176 : decode cL_isSystem 176 = .ok (.goto 4, 3) := by decide +kernel
theorem dL_isSystem_179 : decode cL_isSystem 179 = .ok (.iconst 0, 1) := by decide +kernel
theorem dL_isSystem_180 : decode cL_isSystem 180 = .ok (.if_icmp .ne 100, 3) := by decide +kernel
theorem dL_isSystem_183 : decode cL_isSystem 183 = .ok (.aload_n 0, 1) := by decide +kernel
theorem dL_isSystem_184 : decode cL_isSystem 184 = .ok (.iload 10, 2) := by decide +kernel
theorem dL_isSystem_186 : decode cL_isSystem 186 = .ok (.invokevirtual 79, 3) := by decide +kernel
theorem dL_isSystem_189 : decode cL_isSystem 189 = .ok (.aload_n 1, 1) := by decide +kernel
theorem dL_isSystem_190 : decode cL_isSystem 190 = .ok (.aload_n 2, 1) := by decide +kernel
theorem dL_isSystem_191 : decode cL_isSystem 191 = .ok (.iload 10, 2) := by decide +kernel
theorem dL_isSystem_193 : decode cL_isSystem 193 = .ok (.invokestatic 13, 3) := by decide +kernel
theorem dL_isSystem_196 : decode cL_isSystem 196 = .ok (.if_icmp .ne 84, 3) := by decide +kernel
theorem dL_isSystem_199 : decode cL_isSystem 199 = .ok (.aload_n 0, 1) := by decide +kernel
theorem dL_isSystem_200 : decode cL_isSystem 200 = .ok (.iload 9, 2) := by decide +kernel
theorem dL_isSystem_202 : decode cL_isSystem 202 = .ok (.iload 11, 2) := by decide +kernel
theorem dL_isSystem_204 : decode cL_isSystem 204 = .ok (.invokevirtual 49, 3) := by decide +kernel
theorem dL_isSystem_207 : decode cL_isSystem 207 = .ok (.aload_n 2, 1) := by decide +kernel
theorem dL_isSystem_208 : decode cL_isSystem 208 = .ok (.iconst 4, 1) := by decide +kernel
theorem dL_isSystem_209 : decode cL_isSystem 209 = .ok (.iload 8, 2) := by decide +kernel
theorem dL_isSystem_211 : decode cL_isSystem 211 = .ok (.imul, 1) := by decide +kernel
theorem dL_isSystem_212 : decode cL_isSystem 212 = .ok (.iconst 1, 1) := by decide +kernel
theorem dL_isSystem_213 : decode cL_isSystem 213 = .ok (.iadd, 1) := by decide +kernel
theorem dL_isSystem_214 : decode cL_isSystem 214 = .ok (.iaload, 1) := by decide +kernel
theorem dL_isSystem_215 : decode cL_isSystem 215 = .ok (.if_icmp .ne 65, 3) := by decide +kernel
theorem dL_isSystem_218 : decode cL_isSystem 218 = .ok (.aload_n 0, 1) := by decide +kernel
theorem dL_isSystem_219 : decode cL_isSystem 219 = .ok (.bipush 7, 2) := by decide +kernel
theorem dL_isSystem_221 : decode cL_isSystem 221 = .ok (.iload 10, 2) := by decide +kernel
theorem dL_isSystem_223 : decode cL_isSystem 223 = .ok (.iconst 0, 1) := by decide +kernel
theorem dL_isSystem_224 : decode cL_isSystem 224 = .ok (.iconst 0, 1) := by decide +kernel
theorem dL_isSystem_225 : decode cL_isSystem 225 = .ok (.invokestatic 85, 3) := by decide +kernel
theorem dL_isSystem_228 : decode cL_isSystem 228 = .ok (.aload_n 2, 1) := by decide +kernel
theorem dL_isSystem_229 : decode cL_isSystem 229 = .ok (.iconst 4, 1) := by decide +kernel
theorem dL_isSystem_230 : decode cL_isSystem 230 = .ok (.iload 8, 2) := by decide +kernel
theorem dL_isSystem_232 : decode cL_isSystem 232 = .ok (.imul, 1) := by decide +kernel
theorem dL_isSystem_233 : decode cL_isSystem 233 = .ok (.iconst 3, 1) := by decide +kernel
theorem dL_isSystem_234 : decode cL_isSystem 234 = .ok (.iadd, 1) := by decide +kernel
theorem dL_isSystem_235 : decode cL_isSystem 235 = .ok (.iaload, 1) := by decide +kernel
theorem dL_isSystem_236 : decode cL_isSystem 236 = .ok (.iconst 1, 1) := by decide +kernel
theorem dL_isSystem_237 : decode cL_isSystem 237 = .ok (.if_icmp .ne 13, 3) := by decide +kernel
theorem dL_isSystem_240 : decode cL_isSystem 240 = .ok (.aload_n 1, 1) := by decide +kernel
theorem dL_isSystem_241 : decode cL_isSystem 241 = .ok (.aload_n 2, 1) := by decide +kernel
theorem dL_isSystem_242 : decode cL_isSystem 242 = .ok (.iload 10, 2) := by decide +kernel
theorem dL_isSystem_244 : decode cL_isSystem 244 = .ok (.invokestatic 76, 3) := by decide +kernel
theorem dL_isSystem_247 : decode cL_isSystem 247 = .ok (.goto 5, 3) := by decide +kernel
theorem dL_isSystem_250 : decode cL_isSystem 250 = .ok (.bipush (-11), 2) := by decide +kernel
theorem dL_isSystem_252 : decode cL_isSystem 252 = .ok (.if_icmp .ne 28, 3) := by decide +kernel
theorem dL_isSystem_255 : decode cL_isSystem 255 = .ok (.aload_n 0, 1) := by decide +kernel
theorem dL_isSystem_256 : decode cL_isSystem 256 = .ok (.bipush 8, 2) := by decide +kernel
theorem dL_isSystem_258 : decode cL_isSystem 258 = .ok (.iload 9, 2) := by decide +kernel
theorem dL_isSystem_260 : decode cL_isSystem 260 = .ok (.aload_n 1, 1) := by decide +kernel
theorem dL_isSystem_261 : decode cL_isSystem 261 = .ok (.aload_n 2, 1) := by decide +kernel
theorem dL_isSystem_262 : decode cL_isSystem 262 = .ok (.iload 9, 2) := by decide +kernel
theorem dL_isSystem_264 : decode cL_isSystem 264 = .ok (.invokestatic 76, 3) := by decide +kernel
theorem dL_isSystem_267 : decode cL_isSystem 267 = .ok (.iconst 0, 1) := by decide +kernel
theorem dL_isSystem_268 : decode cL_isSystem 268 = .ok (.invokestatic 85, 3) := by decide +kernel
theorem dL_isSystem_271 : decode cL_isSystem 271 = .ok (.bipush (-11), 2) := by decide +kernel
theorem dL_isSystem_273 : decode cL_isSystem 273 = .ok (.if_icmp .ne 7, 3) := by decide +kernel
theorem dL_isSystem_276 : decode cL_isSystem 276 = .ok (.iconst 1, 1) := by decide +kernel
theorem dL_isSystem_277 : decode cL_isSystem 277 = .ok (.goto 4, 3) := by decide +kernel
theorem dL_isSystem_280 : decode cL_isSystem 280 = .ok (.iconst 0, 1) := by decide +kernel
theorem dL_isSystem_281 : decode cL_isSystem 281 = .ok (.istore 7, 2) := by decide +kernel
theorem dL_isSystem_283 : decode cL_isSystem 283 = .ok (.iinc 8 1, 3) := by decide +kernel
theorem dL_isSystem_286 : decode cL_isSystem 286 = .ok (.goto (-239), 3) := by decide +kernel
theorem dL_isSystem_289 : decode cL_isSystem 289 = .ok (.iconst 0, 1) := by decide +kernel
theorem dL_isSystem_290 : decode cL_isSystem 290 = .ok (.istore 8, 2) := by decide +kernel
theorem dL_isSystem_292 : decode cL_isSystem 292 = .ok (.iload 8, 2) := by decide +kernel
theorem dL_isSystem_294 : decode cL_isSystem 294 = .ok (.aload_n 1, 1) := by decide +kernel
theorem dL_isSystem_295 : decode cL_isSystem 295 = .ok (.iconst 1, 1) := by decide +kernel
theorem dL_isSystem_296 : decode cL_isSystem 296 = .ok (.iaload, 1) := by decide +kernel
theorem dL_isSystem_297 : decode cL_isSystem 297 = .ok (.if_icmp .ge 161, 3) := by decide +kernel
theorem dL_isSystem_300 : decode cL_isSystem 300 = .ok (.iload 7, 2) := by decide +kernel
theorem dL_isSystem_302 : decode cL_isSystem 302 = .ok (.ifCond .eq 156, 3) := by decide +kernel
theorem dL_isSystem_305 : decode cL_isSystem 305 = .ok (.aload_n 0, 1) := by decide +kernel
theorem dL_isSystem_306 : decode cL_isSystem 306 = .ok (.aload_n 3, 1) := by decide +kernel
theorem dL_isSystem_307 : decode cL_isSystem 307 = .ok (.iload 8, 2) := by decide +kernel
theorem dL_isSystem_309 : decode cL_isSystem 309 = .ok (.iaload, 1) := by decide +kernel
theorem dL_isSystem_310 : decode cL_isSystem 310 = .ok (.invokevirtual 52, 3) := by decide +kernel
theorem dL_isSystem_313 : decode cL_isSystem 313 = .ok (.aload 4, 2) := by decide +kernel
theorem dL_isSystem_315 : decode cL_isSystem 315 = .ok (.iload 8, 2) := by decide +kernel
theorem dL_isSystem_317 : decode cL_isSystem 317 = .ok (.iaload, 1) := by decide +kernel
theorem dL_isSystem_318 : decode cL_isSystem 318 = .ok (.if_icmp .ne 7, 3) := by decide +kernel
theorem dL_isSystem_321 : decode cL_isSystem 321 = .ok (.iconst 1, 1) := by decide +kernel
theorem dL_isSystem_322 : decode cL_isSystem 322 = .ok (.goto 4, 3) := by decide +kernel
theorem dL_isSystem_325 : decode cL_isSystem 325 = .ok (.iconst 0, 1) := by decide +kernel
theorem dL_isSystem_326 : decode cL_isSystem 326 = .ok (.istore 7, 2) := by decide +kernel
theorem dL_isSystem_328 : decode cL_isSystem 328 = .ok (.iload 6, 2) := by decide +kernel
theorem dL_isSystem_330 : decode cL_isSystem 330 = .ok (.iconst 3, 1) := by decide +kernel
theorem dL_isSystem_331 : decode cL_isSystem 331 = .ok (.irem, 1) := by decide +kernel
theorem dL_isSystem_332 : decode cL_isSystem 332 = .ok (.istore 9, 2) := by decide +kernel
theorem dL_isSystem_334 : decode cL_isSystem 334 = .ok (.iload 9, 2) := by decide +kernel
theorem dL_isSystem_336 : decode cL_isSystem 336 = .ok (.aload 4, 2) := by decide +kernel
theorem dL_isSystem_338 : decode cL_isSystem 338 = .ok (.iload 8, 2) := by decide +kernel
theorem dL_isSystem_340 : decode cL_isSystem 340 = .ok (.iaload, 1) := by decide +kernel
theorem dL_isSystem_341 : decode cL_isSystem 341 = .ok (.if_icmp .ge 43, 3) := by decide +kernel
theorem dL_isSystem_344 : decode cL_isSystem 344 = .ok (.iload 7, 2) := by decide +kernel
theorem dL_isSystem_346 : decode cL_isSystem 346 = .ok (.ifCond .eq 38, 3) := by decide +kernel
theorem dL_isSystem_349 : decode cL_isSystem 349 = .ok (.aload_n 0, 1) := by decide +kernel
theorem dL_isSystem_350 : decode cL_isSystem 350 = .ok (.aload_n 3, 1) := by decide +kernel
theorem dL_isSystem_351 : decode cL_isSystem 351 = .ok (.iload 8, 2) := by decide +kernel
theorem dL_isSystem_353 : decode cL_isSystem 353 = .ok (.iaload, 1) := by decide +kernel
theorem dL_isSystem_354 : decode cL_isSystem 354 = .ok (.iload 9, 2) := by decide +kernel
theorem dL_isSystem_356 : decode cL_isSystem 356 = .ok (.invokevirtual 89, 3) := by decide +kernel
theorem dL_isSystem_359 : decode cL_isSystem 359 = .ok (.aload 5, 2) := by decide +kernel
theorem dL_isSystem_361 : decode cL_isSystem 361 = .ok (.iload 8, 2) := by decide +kernel
theorem dL_isSystem_363 : decode cL_isSystem 363 = .ok (.iload 9, 2) := by decide +kernel
theorem dL_isSystem_365 : decode cL_isSystem 365 = .ok (.invokestatic 92, 3) := by decide +kernel
theorem dL_isSystem_368 : decode cL_isSystem 368 = .ok (.if_icmp .ne 7, 3) := by decide +kernel
theorem dL_isSystem_371 : decode cL_isSystem 371 = .ok (.iconst 1, 1) := by decide +kernel
theorem dL_isSystem_372 : decode cL_isSystem 372 = .ok (.goto 4, 3) := by decide +kernel
theorem dL_isSystem_375 : decode cL_isSystem 375 = .ok (.iconst 0, 1) := by decide +kernel
theorem dL_isSystem_376 : decode cL_isSystem 376 = .ok (.istore 7, 2) := by decide +kernel
theorem dL_isSystem_378 : decode cL_isSystem 378 = .ok (.iinc 9 3, 3) := by decide +kernel
theorem dL_isSystem_381 : decode cL_isSystem 381 = .ok (.goto (-47), 3) := by decide +kernel
theorem dL_isSystem_384 : decode cL_isSystem 384 = .ok (.iload 6, 2) := by decide +kernel
theorem dL_isSystem_386 : decode cL_isSystem 386 = .ok (.bipush 11, 2) := by decide +kernel
theorem dL_isSystem_388 : decode cL_isSystem 388 = .ok (.irem, 1) := by decide +kernel
theorem dL_isSystem_389 : decode cL_isSystem 389 = .ok (.istore 9, 2) := by decide +kernel
theorem dL_isSystem_391 : decode cL_isSystem 391 = .ok (.iload 9, 2) := by decide +kernel
theorem dL_isSystem_393 : decode cL_isSystem 393 = .ok (.aload 4, 2) := by decide +kernel
theorem dL_isSystem_395 : decode cL_isSystem 395 = .ok (.iload 8, 2) := by decide +kernel
theorem dL_isSystem_397 : decode cL_isSystem 397 = .ok (.iaload, 1) := by decide +kernel
theorem dL_isSystem_398 : decode cL_isSystem 398 = .ok (.if_icmp .ge 54, 3) := by decide +kernel
theorem dL_isSystem_401 : decode cL_isSystem 401 = .ok (.iload 7, 2) := by decide +kernel
theorem dL_isSystem_403 : decode cL_isSystem 403 = .ok (.ifCond .eq 49, 3) := by decide +kernel
theorem dL_isSystem_406 : decode cL_isSystem 406 = .ok (.iload 8, 2) := by decide +kernel
theorem dL_isSystem_408 : decode cL_isSystem 408 = .ok (.iload 6, 2) := by decide +kernel
theorem dL_isSystem_410 : decode cL_isSystem 410 = .ok (.aload_n 1, 1) := by decide +kernel
theorem dL_isSystem_411 : decode cL_isSystem 411 = .ok (.iconst 1, 1) := by decide +kernel
theorem dL_isSystem_412 : decode cL_isSystem 412 = .ok (.iaload, 1) := by decide +kernel
theorem dL_isSystem_413 : decode cL_isSystem 413 = .ok (.irem, 1) := by decide +kernel
theorem dL_isSystem_414 : decode cL_isSystem 414 = .ok (.if_icmp .ne 38, 3) := by decide +kernel
theorem dL_isSystem_417 : decode cL_isSystem 417 = .ok (.aload_n 0, 1) := by decide +kernel
theorem dL_isSystem_418 : decode cL_isSystem 418 = .ok (.aload_n 3, 1) := by decide +kernel
theorem dL_isSystem_419 : decode cL_isSystem 419 = .ok (.iload 8, 2) := by decide +kernel
theorem dL_isSystem_421 : decode cL_isSystem 421 = .ok (.iaload, 1) := by decide +kernel
theorem dL_isSystem_422 : decode cL_isSystem 422 = .ok (.iload 9, 2) := by decide +kernel
theorem dL_isSystem_424 : decode cL_isSystem 424 = .ok (.invokevirtual 95, 3) := by decide +kernel
theorem dL_isSystem_427 : decode cL_isSystem 427 = .ok (.aload 5, 2) := by decide +kernel
theorem dL_isSystem_429 : decode cL_isSystem 429 = .ok (.iload 8, 2) := by decide +kernel
theorem dL_isSystem_431 : decode cL_isSystem 431 = .ok (.iload 9, 2) := by decide +kernel
theorem dL_isSystem_433 : decode cL_isSystem 433 = .ok (.invokestatic 92, 3) := by decide +kernel
theorem dL_isSystem_436 : decode cL_isSystem 436 = .ok (.if_icmp .ne 7, 3) := by decide +kernel
theorem dL_isSystem_439 : decode cL_isSystem 439 = .ok (.iconst 1, 1) := by decide +kernel
theorem dL_isSystem_440 : decode cL_isSystem 440 = .ok (.goto 4, 3) := by decide +kernel
theorem dL_isSystem_443 : decode cL_isSystem 443 = .ok (.iconst 0, 1) := by decide +kernel
theorem dL_isSystem_444 : decode cL_isSystem 444 = .ok (.istore 7, 2) := by decide +kernel
theorem dL_isSystem_446 : decode cL_isSystem 446 = .ok (.iinc 9 11, 3) := by decide +kernel
theorem dL_isSystem_449 : decode cL_isSystem 449 = .ok (.goto (-58), 3) := by decide +kernel
theorem dL_isSystem_452 : decode cL_isSystem 452 = .ok (.iinc 8 1, 3) := by decide +kernel
theorem dL_isSystem_455 : decode cL_isSystem 455 = .ok (.goto (-163), 3) := by decide +kernel
theorem dL_isSystem_458 : decode cL_isSystem 458 = .ok (.iconst 1, 1) := by decide +kernel
theorem dL_isSystem_459 : decode cL_isSystem 459 = .ok (.iload 6, 2) := by decide +kernel
theorem dL_isSystem_461 : decode cL_isSystem 461 = .ok (.bipush 9, 2) := by decide +kernel
theorem dL_isSystem_463 : decode cL_isSystem 463 = .ok (.irem, 1) := by decide +kernel
theorem dL_isSystem_464 : decode cL_isSystem 464 = .ok (.iadd, 1) := by decide +kernel
theorem dL_isSystem_465 : decode cL_isSystem 465 = .ok (.istore 8, 2) := by decide +kernel
theorem dL_isSystem_467 : decode cL_isSystem 467 = .ok (.iload 7, 2) := by decide +kernel
theorem dL_isSystem_469 : decode cL_isSystem 469 = .ok (.ifCond .eq 49, 3) := by decide +kernel
theorem dL_isSystem_472 : decode cL_isSystem 472 = .ok (.aload_n 0, 1) := by decide +kernel
theorem dL_isSystem_473 : decode cL_isSystem 473 = .ok (.bipush 6, 2) := by decide +kernel
theorem dL_isSystem_475 : decode cL_isSystem 475 = .ok (.iconst 1, 1) := by decide +kernel
theorem dL_isSystem_476 : decode cL_isSystem 476 = .ok (.iload 8, 2) := by decide +kernel
theorem dL_isSystem_478 : decode cL_isSystem 478 = .ok (.iconst 0, 1) := by decide +kernel
theorem dL_isSystem_479 : decode cL_isSystem 479 = .ok (.invokestatic 85, 3) := by decide +kernel
theorem dL_isSystem_482 : decode cL_isSystem 482 = .ok (.aload_n 1, 1) := by decide +kernel
theorem dL_isSystem_483 : decode cL_isSystem 483 = .ok (.aload_n 2, 1) := by decide +kernel
theorem dL_isSystem_484 : decode cL_isSystem 484 = .ok (.iconst 1, 1) := by decide +kernel
theorem dL_isSystem_485 : decode cL_isSystem 485 = .ok (.iload 8, 2) := by decide +kernel
theorem dL_isSystem_487 : decode cL_isSystem 487 = .ok (.invokestatic 98, 3) := by decide +kernel
theorem dL_isSystem_490 : decode cL_isSystem 490 = .ok (.ifCond .ge 7, 3) := by decide +kernel
theorem dL_isSystem_493 : decode cL_isSystem 493 = .ok (.iconst (-1), 1) := by decide +kernel
theorem dL_isSystem_494 : decode cL_isSystem 494 = .ok (.goto 17, 3) := by decide +kernel
theorem dL_isSystem_497 : decode cL_isSystem 497 = .ok (.aload_n 2, 1) := by decide +kernel
theorem dL_isSystem_498 : decode cL_isSystem 498 = .ok (.iconst 4, 1) := by decide +kernel
theorem dL_isSystem_499 : decode cL_isSystem 499 = .ok (.aload_n 1, 1) := by decide +kernel
theorem dL_isSystem_500 : decode cL_isSystem 500 = .ok (.aload_n 2, 1) := by decide +kernel
theorem dL_isSystem_501 : decode cL_isSystem 501 = .ok (.iconst 1, 1) := by decide +kernel
theorem dL_isSystem_502 : decode cL_isSystem 502 = .ok (.iload 8, 2) := by decide +kernel
theorem dL_isSystem_504 : decode cL_isSystem 504 = .ok (.invokestatic 98, 3) := by decide +kernel
theorem dL_isSystem_507 : decode cL_isSystem 507 = .ok (.imul, 1) := by decide +kernel
theorem dL_isSystem_508 : decode cL_isSystem 508 = .ok (.iconst 2, 1) := by decide +kernel
theorem dL_isSystem_509 : decode cL_isSystem 509 = .ok (.iadd, 1) := by decide +kernel
theorem dL_isSystem_510 : decode cL_isSystem 510 = .ok (.iaload, 1) := by decide +kernel
theorem dL_isSystem_511 : decode cL_isSystem 511 = .ok (.if_icmp .ne 7, 3) := by decide +kernel
theorem dL_isSystem_514 : decode cL_isSystem 514 = .ok (.iconst 1, 1) := by decide +kernel
theorem dL_isSystem_515 : decode cL_isSystem 515 = .ok (.goto 4, 3) := by decide +kernel
theorem dL_isSystem_518 : decode cL_isSystem 518 = .ok (.iconst 0, 1) := by decide +kernel
theorem dL_isSystem_519 : decode cL_isSystem 519 = .ok (.ireturn, 1) := by decide +kernel
theorem dL_isMounted_0 : decode cL_isMounted 0 = .ok (.aload_n 0, 1) := by decide +kernel
theorem dL_isMounted_1 : decode cL_isMounted 1 = .ok (.invokevirtual 72, 3) := by decide +kernel
theorem dL_isMounted_4 : decode cL_isMounted 4 = .ok (.ifCond .eq 59, 3) := by decide +kernel
theorem dL_isMounted_7 : decode cL_isMounted 7 = .ok (.aload_n 0, 1) := by decide +kernel
theorem dL_isMounted_8 : decode cL_isMounted 8 = .ok (.bipush 6, 2) := by decide +kernel
theorem dL_isMounted_10 : decode cL_isMounted 10 = .ok (.iconst 1, 1) := by decide +kernel
theorem dL_isMounted_11 : decode cL_isMounted 11 = .ok (.iconst 1, 1) := by decide +kernel
theorem dL_isMounted_12 : decode cL_isMounted 12 = .ok (.iconst 0, 1) := by decide +kernel
theorem dL_isMounted_13 : decode cL_isMounted 13 = .ok (.invokestatic 85, 3) := by decide +kernel
theorem dL_isMounted_16 : decode cL_isMounted 16 = .ok (.bipush (-13), 2) := by decide +kernel
theorem dL_isMounted_18 : decode cL_isMounted 18 = .ok (.if_icmp .ne 45, 3) := by decide +kernel
theorem dL_isMounted_21 : decode cL_isMounted 21 = .ok (.aload_n 0, 1) := by decide +kernel
theorem dL_isMounted_22 : decode cL_isMounted 22 = .ok (.iconst 5, 1) := by decide +kernel
theorem dL_isMounted_23 : decode cL_isMounted 23 = .ok (.sipush 500, 3) := by decide +kernel
theorem dL_isMounted_26 : decode cL_isMounted 26 = .ok (.iconst 0, 1) := by decide +kernel
theorem dL_isMounted_27 : decode cL_isMounted 27 = .ok (.iconst 0, 1) := by decide +kernel
theorem dL_isMounted_28 : decode cL_isMounted 28 = .ok (.invokestatic 85, 3) := by decide +kernel
theorem dL_isMounted_31 : decode cL_isMounted 31 = .ok (.bipush (-13), 2) := by decide +kernel
theorem dL_isMounted_33 : decode cL_isMounted 33 = .ok (.if_icmp .ne 30, 3) := by decide +kernel
theorem dL_isMounted_36 : decode cL_isMounted 36 = .ok (.aload_n 0, 1) := by decide +kernel
theorem dL_isMounted_37 : decode cL_isMounted 37 = .ok (.iload_n 1, 1) := by decide +kernel
theorem dL_isMounted_38 : decode cL_isMounted 38 = .ok (.iconst 4, 1) := by decide +kernel
theorem dL_isMounted_39 : decode cL_isMounted 39 = .ok (.irem, 1) := by decide +kernel
theorem dL_isMounted_40 : decode cL_isMounted 40 = .ok (.ifCond .ne 11, 3) := by decide +kernel
theorem dL_isMounted_43 : decode cL_isMounted 43 = .ok (.iload_n 1, 1) := by decide +kernel
theorem dL_isMounted_44 : decode cL_isMounted 44 = .ok (.iconst 4, 1) := by decide +kernel
theorem dL_isMounted_45 : decode cL_isMounted 45 = .ok (.idiv, 1) := by decide +kernel
theorem dL_isMounted_46 : decode cL_isMounted 46 = .ok (.iconst 3, 1) := by decide +kernel
theorem dL_isMounted_47 : decode cL_isMounted 47 = .ok (.irem, 1) := by decide +kernel
theorem dL_isMounted_48 : decode cL_isMounted 48 = .ok (.goto 4, 3) := by decide +kernel
theorem dL_isMounted_51 : decode cL_isMounted 51 = .ok (.iconst (-1), 1) := by decide +kernel
theorem dL_isMounted_52 : decode cL_isMounted 52 = .ok (.invokevirtual 102, 3) := by decide +kernel
theorem dL_isMounted_55 : decode cL_isMounted 55 = .ok (.iconst (-1), 1) := by decide +kernel
theorem dL_isMounted_56 : decode cL_isMounted 56 = .ok (.if_icmp .ne 7, 3) := by decide +kernel
theorem dL_isMounted_59 : decode cL_isMounted 59 = .ok (.iconst 1, 1) := by decide +kernel
theorem dL_isMounted_60 : decode cL_isMounted 60 = .ok (.goto 4, 3) := by decide +kernel
theorem dL_isMounted_63 : decode cL_isMounted 63 = .ok (.iconst 0, 1) := by decide +kernel
theorem dL_isMounted_64 : decode cL_isMounted 64 = .ok (.istore_n 2, 1) := by decide +kernel
theorem dL_isMounted_65 : decode cL_isMounted 65 = .ok (.aload_n 0, 1) := by decide +kernel
theorem dL_isMounted_66 : decode cL_isMounted 66 = .ok (.iload_n 1, 1) := by decide +kernel
theorem dL_isMounted_67 : decode cL_isMounted 67 = .ok (.iconst 2, 1) := by decide +kernel
theorem dL_isMounted_68 : decode cL_isMounted 68 = .ok (.irem, 1) := by decide +kernel
theorem dL_isMounted_69 : decode cL_isMounted 69 = .ok (.ifCond .ne 7, 3) := by decide +kernel
theorem dL_isMounted_72 : decode cL_isMounted 72 = .ok (.iconst 1, 1) := by decide +kernel
theorem dL_isMounted_73 : decode cL_isMounted 73 = .ok (.goto 4, 3) := by decide +kernel
theorem dL_isMounted_76 : decode cL_isMounted 76 = .ok (.iconst 0, 1) := by decide +kernel
theorem dL_isMounted_77 : decode cL_isMounted 77 = .ok (.invokevirtual 105, 3) := by decide +kernel
theorem dL_isMounted_80 : decode cL_isMounted 80 = .ok (.istore_n 3, 1) := by decide +kernel
theorem dL_isMounted_81 : decode cL_isMounted 81 = .ok (.iload_n 3, 1) := by decide +kernel
theorem dL_isMounted_82 : decode cL_isMounted 82 = .ok (.bipush (-9), 2) := by decide +kernel
theorem dL_isMounted_84 : decode cL_isMounted 84 = .ok (.if_icmp .ne 52, 3) := by decide +kernel
theorem dL_isMounted_87 : decode cL_isMounted 87 = .ok (.iload_n 2, 1) := by decide +kernel
theorem dL_isMounted_88 : decode cL_isMounted 88 = .ok (.ifCond .eq 29, 3) := by decide +kernel
theorem dL_isMounted_91 : decode cL_isMounted 91 = .ok (.iload_n 1, 1) := by decide +kernel
theorem dL_isMounted_92 : decode cL_isMounted 92 = .ok (.iconst 4, 1) := by decide +kernel
theorem dL_isMounted_93 : decode cL_isMounted 93 = .ok (.irem, 1) := by decide +kernel
theorem dL_isMounted_94 : decode cL_isMounted 94 = .ok (.ifCond .ne 23, 3) := by decide +kernel
theorem dL_isMounted_97 : decode cL_isMounted 97 = .ok (.aload_n 0, 1) := by decide +kernel
theorem dL_isMounted_98 : decode cL_isMounted 98 = .ok (.invokevirtual 72, 3) := by decide +kernel
theorem dL_isMounted_101 : decode cL_isMounted 101 = .ok (.ifCond .eq 16, 3) := by decide +kernel
theorem dL_isMounted_104 : decode cL_isMounted 104 = .ok (.aload_n 0, 1) := by decide +kernel
theorem dL_isMounted_105 : decode cL_isMounted 105 = .ok (.iconst (-1), 1) := by decide +kernel
theorem dL_isMounted_106 : decode cL_isMounted 106 = .ok (.invokevirtual 102, 3) := by decide +kernel
theorem dL_isMounted_109 : decode cL_isMounted 109 = .ok (.iconst (-1), 1) := by decide +kernel
theorem dL_isMounted_110 : decode cL_isMounted 110 = .ok (.if_icmp .ne 7, 3) := by decide +kernel
theorem dL_isMounted_113 : decode cL_isMounted 113 = .ok (.iconst 1, 1) := by decide +kernel
theorem dL_isMounted_114 : decode cL_isMounted 114 = .ok (.goto 4, 3) := by decide +kernel
theorem dL_isMounted_117 : decode cL_isMounted 117 = .ok (.iconst 0, 1) := by decide +kernel
theorem dL_isMounted_118 : decode cL_isMounted 118 = .ok (.istore_n 2, 1) := by decide +kernel
theorem dL_isMounted_119 : decode cL_isMounted 119 = .ok (.aload_n 0, 1) := by decide +kernel
theorem dL_isMounted_120 : decode cL_isMounted 120 = .ok (.iload_n 1, 1) := by decide +kernel
theorem dL_isMounted_121 : decode cL_isMounted 121 = .ok (.iconst 2, 1) := by decide +kernel
theorem dL_isMounted_122 : decode cL_isMounted 122 = .ok (.irem, 1) := by decide +kernel
theorem dL_isMounted_123 : decode cL_isMounted 123 = .ok (.iconst 1, 1) := by decide +kernel
theorem dL_isMounted_124 : decode cL_isMounted 124 = .ok (.if_icmp .ne 7, 3) := by decide +kernel
theorem dL_isMounted_127 : decode cL_isMounted 127 = .ok (.iconst 1, 1) := by decide +kernel
theorem dL_isMounted_128 : decode cL_isMounted 128 = .ok (.goto 4, 3) := by decide +kernel
theorem dL_isMounted_131 : decode cL_isMounted 131 = .ok (.iconst 0, 1) := by decide +kernel
theorem dL_isMounted_132 : decode cL_isMounted 132 = .ok (.invokevirtual 105, 3) := by decide +kernel
theorem dL_isMounted_135 : decode cL_isMounted 135 = .ok (.istore_n 3, 1) := by decide +kernel
theorem dL_isMounted_136 : decode cL_isMounted 136 = .ok (.aload_n 0, 1) := by decide +kernel
theorem dL_isMounted_137 : decode cL_isMounted 137 = .ok (.iconst (-1), 1) := by decide +kernel
theorem dL_isMounted_138 : decode cL_isMounted 138 = .ok (.invokevirtual 102, 3) := by decide +kernel
theorem dL_isMounted_141 : decode cL_isMounted 141 = .ok (.istore 4, 2) := by decide +kernel
theorem dL_isMounted_143 : decode cL_isMounted 143 = .ok (.iload_n 2, 1) := by decide +kernel
theorem dL_isMounted_144 : decode cL_isMounted 144 = .ok (.ifCond .eq 52, 3) := by decide +kernel
theorem dL_isMounted_147 : decode cL_isMounted 147 = .ok (.iload_n 3, 1) := by decide +kernel
theorem dL_isMounted_148 : decode cL_isMounted 148 = .ok (.bipush 6, 2) := by decide +kernel
theorem dL_isMounted_150 : decode cL_isMounted 150 = .ok (.if_icmp .le 46, 3) := by decide +kernel
theorem dL_isMounted_153 : decode cL_isMounted 153 = .ok (.iload_n 3, 1) := by decide +kernel
theorem dL_isMounted_154 : decode cL_isMounted 154 = .ok (.sipush 320, 3) := by decide +kernel
theorem dL_isMounted_157 : decode cL_isMounted 157 = .ok (.if_icmp .gt 39, 3) := by decide +kernel
theorem dL_isMounted_160 : decode cL_isMounted 160 = .ok (.aload_n 0, 1) := by decide +kernel
theorem dL_isMounted_161 : decode cL_isMounted 161 = .ok (.invokevirtual 72, 3) := by decide +kernel
theorem dL_isMounted_164 : decode cL_isMounted 164 = .ok (.ifCond .ne 32, 3) := by decide +kernel
theorem dL_isMounted_167 : decode cL_isMounted 167 = .ok (.iload_n 1, 1) := by decide +kernel
theorem dL_isMounted_168 : decode cL_isMounted 168 = .ok (.iconst 4, 1) := by decide +kernel
theorem dL_isMounted_169 : decode cL_isMounted 169 = .ok (.irem, 1) := by decide +kernel
theorem dL_isMounted_170 : decode cL_isMounted 170 = .ok (.ifCond .ne 16, 3) := by decide +kernel
theorem dL_isMounted_173 : decode cL_isMounted 173 = .ok (.iload 4, 2) := by decide +kernel
theorem dL_isMounted_175 : decode cL_isMounted 175 = .ok (.iload_n 1, 1) := by decide +kernel
theorem dL_isMounted_176 : decode cL_isMounted 176 = .ok (.iconst 4, 1) := by decide +kernel
theorem dL_isMounted_177 : decode cL_isMounted 177 = .ok (.idiv, 1) := by decide +kernel
theorem dL_isMounted_178 : decode cL_isMounted 178 = .ok (.iconst 3, 1) := by decide +kernel
theorem dL_isMounted_179 : decode cL_isMounted 179 = .ok (.irem, 1) := by decide +kernel
theorem dL_isMounted_180 : decode cL_isMounted 180 = .ok (.if_icmp .gt 16, 3) := by decide +kernel
theorem dL_isMounted_183 : decode cL_isMounted 183 = .ok (.goto 9, 3) := by decide +kernel
theorem dL_isMounted_186 : decode cL_isMounted 186 = .ok (.iload 4, 2) := by decide +kernel
theorem dL_isMounted_188 : decode cL_isMounted 188 = .ok (.iconst (-1), 1) := by decide +kernel
theorem dL_isMounted_189 : decode cL_isMounted 189 = .ok (.if_icmp .ne 7, 3) := by decide +kernel
theorem dL_isMounted_192 : decode cL_isMounted 192 = .ok (.iconst 1, 1) := by decide +kernel
theorem dL_isMounted_193 : decode cL_isMounted 193 = .ok (.goto 4, 3) := by decide +kernel
theorem dL_isMounted_196 : decode cL_isMounted 196 = .ok (.iconst 0, 1) := by decide +kernel
theorem dL_isMounted_197 : decode cL_isMounted 197 = .ok (.ireturn, 1) := by decide +kernel
