theorem dX0_init_0 : decode cX0_init 0 = .ok (.aload_n 0, 1) := by decide +kernel
theorem dX0_init_1 : decode cX0_init 1 = .ok (.invokespecial 3, 3) := by decide +kernel
theorem dX0_init_4 : decode cX0_init 4 = .ok (.aload_n 0, 1) := by decide +kernel
theorem dX0_init_5 : decode cX0_init 5 = .ok (.sipush 128, 3) := by decide +kernel
theorem dX0_init_8 : decode cX0_init 8 = .ok (.anewarray 9, 3) := by decide +kernel
theorem dX0_init_11 : decode cX0_init 11 = .ok (.putfield 11, 3) := by decide +kernel
theorem dX0_init_14 : decode cX0_init 14 = .ok (.aload_n 0, 1) := by decide +kernel
theorem dX0_init_15 : decode cX0_init 15 = .ok (.bipush 8, 2) := by decide +kernel
theorem dX0_init_17 : decode cX0_init 17 = .ok (.newarray .int, 2) := by decide +kernel
theorem dX0_init_19 : decode cX0_init 19 = .ok (.putfield 17, 3) := by decide +kernel
theorem dX0_init_22 : decode cX0_init 22 = .ok (.aload_n 0, 1) := by decide +kernel
theorem dX0_init_23 : decode cX0_init 23 = .ok (.bipush 8, 2) := by decide +kernel
theorem dX0_init_25 : decode cX0_init 25 = .ok (.newarray .int, 2) := by decide +kernel
theorem dX0_init_27 : decode cX0_init 27 = .ok (.putfield 21, 3) := by decide +kernel
theorem dX0_init_30 : decode cX0_init 30 = .ok (.aload_n 0, 1) := by decide +kernel
theorem dX0_init_31 : decode cX0_init 31 = .ok (.bipush 8, 2) := by decide +kernel
theorem dX0_init_33 : decode cX0_init 33 = .ok (.newarray .int, 2) := by decide +kernel
theorem dX0_init_35 : decode cX0_init 35 = .ok (.putfield 24, 3) := by decide +kernel
theorem dX0_init_38 : decode cX0_init 38 = .ok (.aload_n 0, 1) := by decide +kernel
theorem dX0_init_39 : decode cX0_init 39 = .ok (.new 9, 3) := by decide +kernel
theorem dX0_init_42 : decode cX0_init 42 = .ok (.dup, 1) := by decide +kernel
theorem dX0_init_43 : decode cX0_init 43 = .ok (.invokespecial 27, 3) := by decide +kernel
theorem dX0_init_46 : decode cX0_init 46 = .ok (.putfield 28, 3) := by decide +kernel
theorem dX0_init_49 : decode cX0_init 49 = .ok (.aload_n 0, 1) := by decide +kernel
theorem dX0_init_50 : decode cX0_init 50 = .ok (.iconst (-1), 1) := by decide +kernel
theorem dX0_init_51 : decode cX0_init 51 = .ok (.putfield 32, 3) := by decide +kernel
theorem dX0_init_54 : decode cX0_init 54 = .ok (.iconst 0, 1) := by decide +kernel
theorem dX0_init_55 : decode cX0_init 55 = .ok (.istore_n 1, 1) := by decide +kernel
theorem dX0_init_56 : decode cX0_init 56 = .ok (.iload_n 1, 1) := by decide +kernel
theorem dX0_init_57 : decode cX0_init 57 = .ok (.bipush 8, 2) := by decide +kernel
theorem dX0_init_59 : decode cX0_init 59 = .ok (.if_icmp .ge 16, 3) := by decide +kernel
theorem dX0_init_62 : decode cX0_init 62 = .ok (.aload_n 0, 1) := by decide +kernel
theorem dX0_init_63 : decode cX0_init 63 = .ok (.getfield 17, 3) := by decide +kernel
theorem dX0_init_66 : decode cX0_init 66 = .ok (.iload_n 1, 1) := by decide +kernel
theorem dX0_init_67 : decode cX0_init 67 = .ok (.iconst 1, 1) := by decide +kernel
theorem dX0_init_68 : decode cX0_init 68 = .ok (.iastore, 1) := by decide +kernel
theorem dX0_init_69 : decode cX0_init 69 = .ok (.iinc 1 1, 3) := by decide +kernel
theorem dX0_init_72 : decode cX0_init 72 = .ok (.goto (-16), 3) := by decide +kernel
theorem dX0_init_75 : decode cX0_init 75 = .ok (.return_, 1) := by decide +kernel
theorem dX0_has_0 : decode cX0_has 0 = .ok (.iload_n 1, 1) := by decide +kernel
theorem dX0_has_1 : decode cX0_has 1 = .ok (.ifCond .lt 13, 3) := by decide +kernel
theorem dX0_has_4 : decode cX0_has 4 = .ok (.iload_n 1, 1) := by decide +kernel
theorem dX0_has_5 : decode cX0_has 5 = .ok (.bipush 8, 2) := by decide +kernel
theorem dX0_has_7 : decode cX0_has 7 = .ok (.if_icmp .ge 7, 3) := by decide +kernel
theorem dX0_has_10 : decode cX0_has 10 = .ok (.iconst 1, 1) := by decide +kernel
theorem dX0_has_11 : decode cX0_has 11 = .ok (.goto 4, 3) := by decide +kernel
theorem dX0_has_14 : decode cX0_has 14 = .ok (.iconst 0, 1) := by decide +kernel
theorem dX0_has_15 : decode cX0_has 15 = .ok (.ireturn, 1) := by decide +kernel
theorem dX0_usedOf_0 : decode cX0_usedOf 0 = .ok (.aload_n 0, 1) := by decide +kernel
theorem dX0_usedOf_1 : decode cX0_usedOf 1 = .ok (.iload_n 1, 1) := by decide +kernel
theorem dX0_usedOf_2 : decode cX0_usedOf 2 = .ok (.invokevirtual 36, 3) := by decide +kernel
theorem dX0_usedOf_5 : decode cX0_usedOf 5 = .ok (.ifCond .eq 12, 3) := by decide +kernel
theorem dX0_usedOf_8 : decode cX0_usedOf 8 = .ok (.aload_n 0, 1) := by decide +kernel
theorem dX0_usedOf_9 : decode cX0_usedOf 9 = .ok (.getfield 17, 3) := by decide +kernel
theorem dX0_usedOf_12 : decode cX0_usedOf 12 = .ok (.iload_n 1, 1) := by decide +kernel
theorem dX0_usedOf_13 : decode cX0_usedOf 13 = .ok (.iaload, 1) := by decide +kernel
theorem dX0_usedOf_14 : decode cX0_usedOf 14 = .ok (.goto 4, 3) := by decide +kernel
theorem dX0_usedOf_17 : decode cX0_usedOf 17 = .ok (.iconst 0, 1) := by decide +kernel
theorem dX0_usedOf_18 : decode cX0_usedOf 18 = .ok (.ireturn, 1) := by decide +kernel
theorem dX0_countOf_0 : decode cX0_countOf 0 = .ok (.aload_n 0, 1) := by decide +kernel
theorem dX0_countOf_1 : decode cX0_countOf 1 = .ok (.iload_n 1, 1) := by decide +kernel
theorem dX0_countOf_2 : decode cX0_countOf 2 = .ok (.invokevirtual 36, 3) := by decide +kernel
theorem dX0_countOf_5 : decode cX0_countOf 5 = .ok (.ifCond .eq 12, 3) := by decide +kernel
theorem dX0_countOf_8 : decode cX0_countOf 8 = .ok (.aload_n 0, 1) := by decide +kernel
theorem dX0_countOf_9 : decode cX0_countOf 9 = .ok (.getfield 21, 3) := by decide +kernel
theorem dX0_countOf_12 : decode cX0_countOf 12 = .ok (.iload_n 1, 1) := by decide +kernel
theorem dX0_countOf_13 : decode cX0_countOf 13 = .ok (.iaload, 1) := by decide +kernel
theorem dX0_countOf_14 : decode cX0_countOf 14 = .ok (.goto 4, 3) := by decide +kernel
theorem dX0_countOf_17 : decode cX0_countOf 17 = .ok (.iconst 0, 1) := by decide +kernel
theorem dX0_countOf_18 : decode cX0_countOf 18 = .ok (.ireturn, 1) := by decide +kernel
theorem dX0_at_0 : decode cX0_at 0 = .ok (.aload_n 0, 1) := by decide +kernel
theorem dX0_at_1 : decode cX0_at 1 = .ok (.iload_n 1, 1) := by decide +kernel
theorem dX0_at_2 : decode cX0_at 2 = .ok (.invokevirtual 36, 3) := by decide +kernel
theorem dX0_at_5 : decode cX0_at 5 = .ok (.ifCond .eq 26, 3) := by decide +kernel
theorem dX0_at_8 : decode cX0_at 8 = .ok (.iload_n 2, 1) := by decide +kernel
theorem dX0_at_9 : decode cX0_at 9 = .ok (.ifCond .lt 22, 3) := by decide +kernel
theorem dX0_at_12 : decode cX0_at 12 = .ok (.iload_n 2, 1) := by decide +kernel
theorem dX0_at_13 : decode cX0_at 13 = .ok (.bipush 16, 2) := by decide +kernel
theorem dX0_at_15 : decode cX0_at 15 = .ok (.if_icmp .ge 16, 3) := by decide +kernel
theorem dX0_at_18 : decode cX0_at 18 = .ok (.aload_n 0, 1) := by decide +kernel
theorem dX0_at_19 : decode cX0_at 19 = .ok (.iload_n 1, 1) := by decide +kernel
theorem dX0_at_20 : decode cX0_at 20 = .ok (.bipush 16, 2) := by decide +kernel
theorem dX0_at_22 : decode cX0_at 22 = .ok (.imul, 1) := by decide +kernel
theorem dX0_at_23 : decode cX0_at 23 = .ok (.iload_n 2, 1) := by decide +kernel
theorem dX0_at_24 : decode cX0_at 24 = .ok (.iadd, 1) := by decide +kernel
theorem dX0_at_25 : decode cX0_at 25 = .ok (.invokevirtual 40, 3) := by decide +kernel
theorem dX0_at_28 : decode cX0_at 28 = .ok (.goto 7, 3) := by decide +kernel
theorem dX0_at_31 : decode cX0_at 31 = .ok (.aload_n 0, 1) := by decide +kernel
theorem dX0_at_32 : decode cX0_at 32 = .ok (.getfield 28, 3) := by decide +kernel
theorem dX0_at_35 : decode cX0_at 35 = .ok (.areturn, 1) := by decide +kernel
theorem dX0_row_0 : decode cX0_row 0 = .ok (.iload_n 1, 1) := by decide +kernel
theorem dX0_row_1 : decode cX0_row 1 = .ok (.ifCond .lt 21, 3) := by decide +kernel
theorem dX0_row_4 : decode cX0_row 4 = .ok (.iload_n 1, 1) := by decide +kernel
theorem dX0_row_5 : decode cX0_row 5 = .ok (.aload_n 0, 1) := by decide +kernel
theorem dX0_row_6 : decode cX0_row 6 = .ok (.getfield 11, 3) := by decide +kernel
theorem dX0_row_9 : decode cX0_row 9 = .ok (.arraylength, 1) := by decide +kernel
theorem dX0_row_10 : decode cX0_row 10 = .ok (.if_icmp .ge 12, 3) := by decide +kernel
theorem dX0_row_13 : decode cX0_row 13 = .ok (.aload_n 0, 1) := by decide +kernel
theorem dX0_row_14 : decode cX0_row 14 = .ok (.getfield 11, 3) := by decide +kernel
theorem dX0_row_17 : decode cX0_row 17 = .ok (.iload_n 1, 1) := by decide +kernel
theorem dX0_row_18 : decode cX0_row 18 = .ok (.aaload, 1) := by decide +kernel
theorem dX0_row_19 : decode cX0_row 19 = .ok (.goto 4, 3) := by decide +kernel
theorem dX0_row_22 : decode cX0_row 22 = .ok (.aconst_null, 1) := by decide +kernel
theorem dX0_row_23 : decode cX0_row 23 = .ok (.astore_n 2, 1) := by decide +kernel
theorem dX0_row_24 : decode cX0_row 24 = .ok (.aload_n 2, 1) := by decide +kernel
theorem dX0_row_25 : decode cX0_row 25 = .ok (.ifnonnull 10, 3) := by decide +kernel
theorem dX0_row_28 : decode cX0_row 28 = .ok (.aload_n 0, 1) := by decide +kernel
theorem dX0_row_29 : decode cX0_row 29 = .ok (.getfield 28, 3) := by decide +kernel
theorem dX0_row_32 : decode cX0_row 32 = .ok (.goto 4, 3) := by decide +kernel
theorem dX0_row_35 : decode cX0_row 35 = .ok (.aload_n 2, 1) := by decide +kernel
theorem dX0_row_36 : decode cX0_row 36 = .ok (.areturn, 1) := by decide +kernel
theorem dX0_newest_0 : decode cX0_newest 0 = .ok (.aconst_null, 1) := by decide +kernel
theorem dX0_newest_1 : decode cX0_newest 1 = .ok (.astore 5, 2) := by decide +kernel
theorem dX0_newest_3 : decode cX0_newest 3 = .ok (.iconst 0, 1) := by decide +kernel
theorem dX0_newest_4 : decode cX0_newest 4 = .ok (.istore 6, 2) := by decide +kernel
theorem dX0_newest_6 : decode cX0_newest 6 = .ok (.iload 6, 2) := by decide +kernel
theorem dX0_newest_8 : decode cX0_newest 8 = .ok (.aload_n 0, 1) := by decide +kernel
theorem dX0_newest_9 : decode cX0_newest 9 = .ok (.getfield 11, 3) := by decide +kernel
theorem dX0_newest_12 : decode cX0_newest 12 = .ok (.arraylength, 1) := by decide +kernel
theorem dX0_newest_13 : decode cX0_newest 13 = .ok (.if_icmp .ge 68, 3) := by decide +kernel
theorem dX0_newest_16 : decode cX0_newest 16 = .ok (.aload_n 0, 1) := by decide +kernel
theorem dX0_newest_17 : decode cX0_newest 17 = .ok (.iload 6, 2) := by decide +kernel
theorem dX0_newest_19 : decode cX0_newest 19 = .ok (.invokevirtual 40, 3) := by decide +kernel
theorem dX0_newest_22 : decode cX0_newest 22 = .ok (.astore 7, 2) := by decide +kernel
theorem dX0_newest_24 : decode cX0_newest 24 = .ok (.aload 7, 2) := by decide +kernel
theorem dX0_newest_26 : decode cX0_newest 26 = .ok (.iload_n 1, 1) := by decide +kernel
theorem dX0_newest_27 : decode cX0_newest 27 = .ok (.iload_n 2, 1) := by decide +kernel
theorem dX0_newest_28 : decode cX0_newest 28 = .ok (.invokevirtual 44, 3) := by decide +kernel
theorem dX0_newest_31 : decode cX0_newest 31 = .ok (.ifCond .eq 44, 3) := by decide +kernel
theorem dX0_newest_34 : decode cX0_newest 34 = .ok (.aload 7, 2) := by decide +kernel
theorem dX0_newest_36 : decode cX0_newest 36 = .ok (.getfield 48, 3) := by decide +kernel
theorem dX0_newest_39 : decode cX0_newest 39 = .ok (.iload 4, 2) := by decide +kernel
theorem dX0_newest_41 : decode cX0_newest 41 = .ok (.if_icmp .ge 34, 3) := by decide +kernel
theorem dX0_newest_44 : decode cX0_newest 44 = .ok (.aload 7, 2) := by decide +kernel
theorem dX0_newest_46 : decode cX0_newest 46 = .ok (.iload_n 3, 1) := by decide +kernel
theorem dX0_newest_47 : decode cX0_newest 47 = .ok (.invokevirtual 51, 3) := by decide +kernel
theorem dX0_newest_50 : decode cX0_newest 50 = .ok (.ifCond .eq 25, 3) := by decide +kernel
theorem dX0_newest_53 : decode cX0_newest 53 = .ok (.aload 5, 2) := by decide +kernel
theorem dX0_newest_55 : decode cX0_newest 55 = .ok (.ifnull 16, 3) := by decide +kernel
theorem dX0_newest_58 : decode cX0_newest 58 = .ok (.aload 7, 2) := by decide +kernel
theorem dX0_newest_60 : decode cX0_newest 60 = .ok (.getfield 48, 3) := by decide +kernel
theorem dX0_newest_63 : decode cX0_newest 63 = .ok (.aload 5, 2) := by decide +kernel
theorem dX0_newest_65 : decode cX0_newest 65 = .ok (.getfield 48, 3) := by decide +kernel
theorem dX0_newest_68 : decode cX0_newest 68 = .ok (.if_icmp .le 7, 3) := by decide +kernel
theorem dX0_newest_71 : decode cX0_newest 71 = .ok (.aload 7, 2) := by decide +kernel
theorem dX0_newest_73 : decode cX0_newest 73 = .ok (.astore 5, 2) := by decide +kernel
theorem dX0_newest_75 : decode cX0_newest 75 = .ok (.iinc 6 1, 3) := by decide +kernel
theorem dX0_newest_78 : decode cX0_newest 78 = .ok (.goto (-72), 3) := by decide +kernel
theorem dX0_newest_81 : decode cX0_newest 81 = .ok (.aload 5, 2) := by decide +kernel
theorem dX0_newest_83 : decode cX0_newest 83 = .ok (.areturn, 1) := by decide +kernel
theorem dX0_nextData_0 : decode cX0_nextData 0 = .ok (.aconst_null, 1) := by decide +kernel
theorem dX0_nextData_1 : decode cX0_nextData 1 = .ok (.astore_n 3, 1) := by decide +kernel
theorem dX0_nextData_2 : decode cX0_nextData 2 = .ok (.iconst 0, 1) := by decide +kernel
theorem dX0_nextData_3 : decode cX0_nextData 3 = .ok (.istore 4, 2) := by decide +kernel
theorem dX0_nextData_5 : decode cX0_nextData 5 = .ok (.iload 4, 2) := by decide +kernel
theorem dX0_nextData_7 : decode cX0_nextData 7 = .ok (.aload_n 0, 1) := by decide +kernel
theorem dX0_nextData_8 : decode cX0_nextData 8 = .ok (.getfield 11, 3) := by decide +kernel
theorem dX0_nextData_11 : decode cX0_nextData 11 = .ok (.arraylength, 1) := by decide +kernel
theorem dX0_nextData_12 : decode cX0_nextData 12 = .ok (.if_icmp .ge 55, 3) := by decide +kernel
theorem dX0_nextData_15 : decode cX0_nextData 15 = .ok (.aload_n 0, 1) := by decide +kernel
theorem dX0_nextData_16 : decode cX0_nextData 16 = .ok (.iload 4, 2) := by decide +kernel
theorem dX0_nextData_18 : decode cX0_nextData 18 = .ok (.invokevirtual 40, 3) := by decide +kernel
theorem dX0_nextData_21 : decode cX0_nextData 21 = .ok (.astore 5, 2) := by decide +kernel
theorem dX0_nextData_23 : decode cX0_nextData 23 = .ok (.aload 5, 2) := by decide +kernel
theorem dX0_nextData_25 : decode cX0_nextData 25 = .ok (.iconst 1, 1) := by decide +kernel
theorem dX0_nextData_26 : decode cX0_nextData 26 = .ok (.iload_n 1, 1) := by decide +kernel
theorem dX0_nextData_27 : decode cX0_nextData 27 = .ok (.invokevirtual 44, 3) := by decide +kernel
theorem dX0_nextData_30 : decode cX0_nextData 30 = .ok (.ifCond .eq 31, 3) := by decide +kernel
theorem dX0_nextData_33 : decode cX0_nextData 33 = .ok (.aload 5, 2) := by decide +kernel
theorem dX0_nextData_35 : decode cX0_nextData 35 = .ok (.getfield 48, 3) := by decide +kernel
theorem dX0_nextData_38 : decode cX0_nextData 38 = .ok (.iload_n 2, 1) := by decide +kernel
theorem dX0_nextData_39 : decode cX0_nextData 39 = .ok (.if_icmp .le 22, 3) := by decide +kernel
theorem dX0_nextData_42 : decode cX0_nextData 42 = .ok (.aload_n 3, 1) := by decide +kernel
theorem dX0_nextData_43 : decode cX0_nextData 43 = .ok (.ifnull 15, 3) := by decide +kernel
theorem dX0_nextData_46 : decode cX0_nextData 46 = .ok (.aload 5, 2) := by decide +kernel
theorem dX0_nextData_48 : decode cX0_nextData 48 = .ok (.getfield 48, 3) := by decide +kernel
theorem dX0_nextData_51 : decode cX0_nextData 51 = .ok (.aload_n 3, 1) := by decide +kernel
theorem dX0_nextData_52 : decode cX0_nextData 52 = .ok (.getfield 48, 3) := by decide +kernel
theorem dX0_nextData_55 : decode cX0_nextData 55 = .ok (.if_icmp .ge 6, 3) := by decide +kernel
theorem dX0_nextData_58 : decode cX0_nextData 58 = .ok (.aload 5, 2) := by decide +kernel
theorem dX0_nextData_60 : decode cX0_nextData 60 = .ok (.astore_n 3, 1) := by decide +kernel
theorem dX0_nextData_61 : decode cX0_nextData 61 = .ok (.iinc 4 1, 3) := by decide +kernel
theorem dX0_nextData_64 : decode cX0_nextData 64 = .ok (.goto (-59), 3) := by decide +kernel
theorem dX0_nextData_67 : decode cX0_nextData 67 = .ok (.aload_n 3, 1) := by decide +kernel
theorem dX0_nextData_68 : decode cX0_nextData 68 = .ok (.areturn, 1) := by decide +kernel
theorem dX0_settledByNewer_0 : decode cX0_settledByNewer 0 = .ok (.lconst 0, 1) := by decide +kernel
theorem dX0_settledByNewer_1 : decode cX0_settledByNewer 1 = .ok (.lstore_n 2, 1) := by decide +kernel
theorem dX0_settledByNewer_2 : decode cX0_settledByNewer 2 = .ok (.iconst 0, 1) := by decide +kernel
theorem dX0_settledByNewer_3 : decode cX0_settledByNewer 3 = .ok (.istore 4, 2) := by decide +kernel
theorem dX0_settledByNewer_5 : decode cX0_settledByNewer 5 = .ok (.iload 4, 2) := by decide +kernel
theorem dX0_settledByNewer_7 : decode cX0_settledByNewer 7 = .ok (.aload_n 0, 1) := by decide +kernel
theorem dX0_settledByNewer_8 : decode cX0_settledByNewer 8 = .ok (.getfield 11, 3) := by decide +kernel
theorem dX0_settledByNewer_11 : decode cX0_settledByNewer 11 = .ok (.arraylength, 1) := by decide +kernel
theorem dX0_settledByNewer_12 : decode cX0_settledByNewer 12 = .ok (.if_icmp .ge 50, 3) := by decide +kernel
theorem dX0_settledByNewer_15 : decode cX0_settledByNewer 15 = .ok (.aload_n 0, 1) := by decide +kernel
theorem dX0_settledByNewer_16 : decode cX0_settledByNewer 16 = .ok (.iload 4, 2) := by decide +kernel
theorem dX0_settledByNewer_18 : decode cX0_settledByNewer 18 = .ok (.invokevirtual 40, 3) := by decide +kernel
theorem dX0_settledByNewer_21 : decode cX0_settledByNewer 21 = .ok (.astore 5, 2) := by decide +kernel
theorem dX0_settledByNewer_23 : decode cX0_settledByNewer 23 = .ok (.aload 5, 2) := by decide +kernel
theorem dX0_settledByNewer_25 : decode cX0_settledByNewer 25 = .ok (.iconst 1, 1) := by decide +kernel
theorem dX0_settledByNewer_26 : decode cX0_settledByNewer 26 = .ok (.aload_n 1, 1) := by decide +kernel
theorem dX0_settledByNewer_27 : decode cX0_settledByNewer 27 = .ok (.getfield 54, 3) := by decide +kernel
theorem dX0_settledByNewer_30 : decode cX0_settledByNewer 30 = .ok (.invokevirtual 44, 3) := by decide +kernel
theorem dX0_settledByNewer_33 : decode cX0_settledByNewer 33 = .ok (.ifCond .eq 23, 3) := by decide +kernel
theorem dX0_settledByNewer_36 : decode cX0_settledByNewer 36 = .ok (.aload 5, 2) := by decide +kernel
theorem dX0_settledByNewer_38 : decode cX0_settledByNewer 38 = .ok (.getfield 48, 3) := by decide +kernel
theorem dX0_settledByNewer_41 : decode cX0_settledByNewer 41 = .ok (.aload_n 1, 1) := by decide +kernel
theorem dX0_settledByNewer_42 : decode cX0_settledByNewer 42 = .ok (.getfield 48, 3) := by decide +kernel
theorem dX0_settledByNewer_45 : decode cX0_settledByNewer 45 = .ok (.if_icmp .le 11, 3) := by decide +kernel
theorem dX0_settledByNewer_48 : decode cX0_settledByNewer 48 = .ok (.lload_n 2, 1) := by decide +kernel
theorem dX0_settledByNewer_49 : decode cX0_settledByNewer 49 = .ok (.aload 5, 2) := by decide +kernel
theorem dX0_settledByNewer_51 : decode cX0_settledByNewer 51 = .ok (.invokevirtual 57, 3) := by decide +kernel
theorem dX0_settledByNewer_54 : decode cX0_settledByNewer 54 = .ok (.lor, 1) := by decide +kernel
theorem dX0_settledByNewer_55 : decode cX0_settledByNewer 55 = .ok (.lstore_n 2, 1) := by decide +kernel
theorem dX0_settledByNewer_56 : decode cX0_settledByNewer 56 = .ok (.iinc 4 1, 3) := by decide +kernel
theorem dX0_settledByNewer_59 : decode cX0_settledByNewer 59 = .ok (.goto (-54), 3) := by decide +kernel
theorem dX0_settledByNewer_62 : decode cX0_settledByNewer 62 = .ok (.lload_n 2, 1) := by decide +kernel
theorem dX0_settledByNewer_63 : decode cX0_settledByNewer 63 = .ok (.lreturn, 1) := by decide +kernel
theorem dX0_firstCopy_0 : decode cX0_firstCopy 0 = .ok (.iconst 0, 1) := by decide +kernel
theorem dX0_firstCopy_1 : decode cX0_firstCopy 1 = .ok (.istore_n 2, 1) := by decide +kernel
theorem dX0_firstCopy_2 : decode cX0_firstCopy 2 = .ok (.iload_n 2, 1) := by decide +kernel
theorem dX0_firstCopy_3 : decode cX0_firstCopy 3 = .ok (.aload_n 0, 1) := by decide +kernel
theorem dX0_firstCopy_4 : decode cX0_firstCopy 4 = .ok (.getfield 11, 3) := by decide +kernel
theorem dX0_firstCopy_7 : decode cX0_firstCopy 7 = .ok (.arraylength, 1) := by decide +kernel
theorem dX0_firstCopy_8 : decode cX0_firstCopy 8 = .ok (.if_icmp .ge 25, 3) := by decide +kernel
theorem dX0_firstCopy_11 : decode cX0_firstCopy 11 = .ok (.aload_n 0, 1) := by decide +kernel
theorem dX0_firstCopy_12 : decode cX0_firstCopy 12 = .ok (.iload_n 2, 1) := by decide +kernel
theorem dX0_firstCopy_13 : decode cX0_firstCopy 13 = .ok (.invokevirtual 40, 3) := by decide +kernel
theorem dX0_firstCopy_16 : decode cX0_firstCopy 16 = .ok (.astore_n 3, 1) := by decide +kernel
theorem dX0_firstCopy_17 : decode cX0_firstCopy 17 = .ok (.aload_n 3, 1) := by decide +kernel
theorem dX0_firstCopy_18 : decode cX0_firstCopy 18 = .ok (.aload_n 1, 1) := by decide +kernel
theorem dX0_firstCopy_19 : decode cX0_firstCopy 19 = .ok (.invokevirtual 61, 3) := by decide +kernel
theorem dX0_firstCopy_22 : decode cX0_firstCopy 22 = .ok (.ifCond .eq 5, 3) := by decide +kernel
theorem dX0_firstCopy_25 : decode cX0_firstCopy 25 = .ok (.aload_n 3, 1) := by decide +kernel
theorem dX0_firstCopy_26 : decode cX0_firstCopy 26 = .ok (.areturn, 1) := by decide +kernel
theorem dX0_firstCopy_27 : decode cX0_firstCopy 27 = .ok (.iinc 2 1, 3) := by decide +kernel
theorem dX0_firstCopy_30 : decode cX0_firstCopy 30 = .ok (.goto (-28), 3) := by decide +kernel
theorem dX0_firstCopy_33 : decode cX0_firstCopy 33 = .ok (.aconst_null, 1) := by decide +kernel
theorem dX0_firstCopy_34 : decode cX0_firstCopy 34 = .ok (.areturn, 1) := by decide +kernel
theorem dX0_spend_0 : decode cX0_spend 0 = .ok (.aload_n 0, 1) := by decide +kernel
theorem dX0_spend_1 : decode cX0_spend 1 = .ok (.getfield 32, 3) := by decide +kernel
theorem dX0_spend_4 : decode cX0_spend 4 = .ok (.ifCond .ne 15, 3) := by decide +kernel
theorem dX0_spend_7 : decode cX0_spend 7 = .ok (.aload_n 0, 1) := by decide +kernel
theorem dX0_spend_8 : decode cX0_spend 8 = .ok (.iconst (-1), 1) := by decide +kernel
theorem dX0_spend_9 : decode cX0_spend 9 = .ok (.putfield 32, 3) := by decide +kernel
theorem dX0_spend_12 : decode cX0_spend 12 = .ok (.aload_n 0, 1) := by decide +kernel
theorem dX0_spend_13 : decode cX0_spend 13 = .ok (.iconst 1, 1) := by decide +kernel
theorem dX0_spend_14 : decode cX0_spend 14 = .ok (.putfield 65, 3) := by decide +kernel
theorem dX0_spend_17 : decode cX0_spend 17 = .ok (.iconst 0, 1) := by decide +kernel
theorem dX0_spend_18 : decode cX0_spend 18 = .ok (.ireturn, 1) := by decide +kernel
theorem dX0_spend_19 : decode cX0_spend 19 = .ok (.aload_n 0, 1) := by decide +kernel
theorem dX0_spend_20 : decode cX0_spend 20 = .ok (.getfield 32, 3) := by decide +kernel
theorem dX0_spend_23 : decode cX0_spend 23 = .ok (.ifCond .le 13, 3) := by decide +kernel
theorem dX0_spend_26 : decode cX0_spend 26 = .ok (.aload_n 0, 1) := by decide +kernel
theorem dX0_spend_27 : decode cX0_spend 27 = .ok (.dup, 1) := by decide +kernel
theorem dX0_spend_28 : decode cX0_spend 28 = .ok (.getfield 32, 3) := by decide +kernel
theorem dX0_spend_31 : decode cX0_spend 31 = .ok (.iconst 1, 1) := by decide +kernel
theorem dX0_spend_32 : decode cX0_spend 32 = .ok (.isub, 1) := by decide +kernel
theorem dX0_spend_33 : decode cX0_spend 33 = .ok (.putfield 32, 3) := by decide +kernel
theorem dX0_spend_36 : decode cX0_spend 36 = .ok (.iconst 1, 1) := by decide +kernel
theorem dX0_spend_37 : decode cX0_spend 37 = .ok (.ireturn, 1) := by decide +kernel
theorem dX0_append_0 : decode cX0_append 0 = .ok (.aconst_null, 1) := by decide +kernel
theorem dX0_append_1 : decode cX0_append 1 = .ok (.astore_n 3, 1) := by decide +kernel
theorem dX0_append_2 : decode cX0_append 2 = .ok (.iconst 0, 1) := by decide +kernel
theorem dX0_append_3 : decode cX0_append 3 = .ok (.istore 4, 2) := by decide +kernel
theorem dX0_append_5 : decode cX0_append 5 = .ok (.iload 4, 2) := by decide +kernel
theorem dX0_append_7 : decode cX0_append 7 = .ok (.aload_n 2, 1) := by decide +kernel
theorem dX0_append_8 : decode cX0_append 8 = .ok (.getfield 69, 3) := by decide +kernel
theorem dX0_append_11 : decode cX0_append 11 = .ok (.if_icmp .ge 57, 3) := by decide +kernel
theorem dX0_append_14 : decode cX0_append 14 = .ok (.aload_n 0, 1) := by decide +kernel
theorem dX0_append_15 : decode cX0_append 15 = .ok (.invokevirtual 72, 3) := by decide +kernel
theorem dX0_append_18 : decode cX0_append 18 = .ok (.ifCond .ne 5, 3) := by decide +kernel
theorem dX0_append_21 : decode cX0_append 21 = .ok (.iconst 0, 1) := by decide +kernel
theorem dX0_append_22 : decode cX0_append 22 = .ok (.ireturn, 1) := by decide +kernel
theorem dX0_append_23 : decode cX0_append 23 = .ok (.aload_n 3, 1) := by decide +kernel
theorem dX0_append_24 : decode cX0_append 24 = .ok (.ifnonnull 10, 3) := by decide +kernel
theorem dX0_append_27 : decode cX0_append 27 = .ok (.aload_n 0, 1) := by decide +kernel
theorem dX0_append_28 : decode cX0_append 28 = .ok (.iload_n 1, 1) := by decide +kernel
theorem dX0_append_29 : decode cX0_append 29 = .ok (.aload_n 2, 1) := by decide +kernel
theorem dX0_append_30 : decode cX0_append 30 = .ok (.invokevirtual 76, 3) := by decide +kernel
theorem dX0_append_33 : decode cX0_append 33 = .ok (.astore_n 3, 1) := by decide +kernel
theorem dX0_append_34 : decode cX0_append 34 = .ok (.aload_n 3, 1) := by decide +kernel
theorem dX0_append_35 : decode cX0_append 35 = .ok (.dup, 1) := by decide +kernel
theorem dX0_append_36 : decode cX0_append 36 = .ok (.getfield 80, 3) := by decide +kernel
theorem dX0_append_39 : decode cX0_append 39 = .ok (.iconst 1, 1) := by decide +kernel
theorem dX0_append_40 : decode cX0_append 40 = .ok (.iadd, 1) := by decide +kernel
theorem dX0_append_41 : decode cX0_append 41 = .ok (.putfield 80, 3) := by decide +kernel
theorem dX0_append_44 : decode cX0_append 44 = .ok (.aload_n 0, 1) := by decide +kernel
theorem dX0_append_45 : decode cX0_append 45 = .ok (.iload_n 1, 1) := by decide +kernel
theorem dX0_append_46 : decode cX0_append 46 = .ok (.invokevirtual 36, 3) := by decide +kernel
theorem dX0_append_49 : decode cX0_append 49 = .ok (.ifCond .eq 13, 3) := by decide +kernel
theorem dX0_append_52 : decode cX0_append 52 = .ok (.aload_n 0, 1) := by decide +kernel
theorem dX0_append_53 : decode cX0_append 53 = .ok (.getfield 17, 3) := by decide +kernel
theorem dX0_append_56 : decode cX0_append 56 = .ok (.iload_n 1, 1) := by decide +kernel
theorem dX0_append_57 : decode cX0_append 57 = .ok (.dup2, 1) := by decide +kernel
theorem dX0_append_58 : decode cX0_append 58 = .ok (.iaload, 1) := by decide +kernel
theorem dX0_append_59 : decode cX0_append 59 = .ok (.iconst 1, 1) := by decide +kernel
theorem dX0_append_60 : decode cX0_append 60 = .ok (.iadd, 1) := by decide +kernel
theorem dX0_append_61 : decode cX0_append 61 = .ok (.iastore, 1) := by decide +kernel
theorem dX0_append_62 : decode cX0_append 62 = .ok (.iinc 4 1, 3) := by decide +kernel
theorem dX0_append_65 : decode cX0_append 65 = .ok (.goto (-60), 3) := by decide +kernel
theorem dX0_append_68 : decode cX0_append 68 = .ok (.iconst 1, 1) := by decide +kernel
theorem dX0_append_69 : decode cX0_append 69 = .ok (.ireturn, 1) := by decide +kernel
theorem dX0_begin_0 : decode cX0_begin 0 = .ok (.aload_n 0, 1) := by decide +kernel
theorem dX0_begin_1 : decode cX0_begin 1 = .ok (.iload_n 1, 1) := by decide +kernel
theorem dX0_begin_2 : decode cX0_begin 2 = .ok (.invokevirtual 36, 3) := by decide +kernel
theorem dX0_begin_5 : decode cX0_begin 5 = .ok (.ifCond .eq 14, 3) := by decide +kernel
theorem dX0_begin_8 : decode cX0_begin 8 = .ok (.aload_n 0, 1) := by decide +kernel
theorem dX0_begin_9 : decode cX0_begin 9 = .ok (.getfield 21, 3) := by decide +kernel
theorem dX0_begin_12 : decode cX0_begin 12 = .ok (.iload_n 1, 1) := by decide +kernel
theorem dX0_begin_13 : decode cX0_begin 13 = .ok (.iaload, 1) := by decide +kernel
theorem dX0_begin_14 : decode cX0_begin 14 = .ok (.bipush 16, 2) := by decide +kernel
theorem dX0_begin_16 : decode cX0_begin 16 = .ok (.if_icmp .lt 8, 3) := by decide +kernel
theorem dX0_begin_19 : decode cX0_begin 19 = .ok (.aload_n 0, 1) := by decide +kernel
theorem dX0_begin_20 : decode cX0_begin 20 = .ok (.getfield 28, 3) := by decide +kernel
theorem dX0_begin_23 : decode cX0_begin 23 = .ok (.areturn, 1) := by decide +kernel
theorem dX0_begin_24 : decode cX0_begin 24 = .ok (.iload_n 1, 1) := by decide +kernel
theorem dX0_begin_25 : decode cX0_begin 25 = .ok (.bipush 16, 2) := by decide +kernel
theorem dX0_begin_27 : decode cX0_begin 27 = .ok (.imul, 1) := by decide +kernel
theorem dX0_begin_28 : decode cX0_begin 28 = .ok (.aload_n 0, 1) := by decide +kernel
theorem dX0_begin_29 : decode cX0_begin 29 = .ok (.getfield 21, 3) := by decide +kernel
theorem dX0_begin_32 : decode cX0_begin 32 = .ok (.iload_n 1, 1) := by decide +kernel
theorem dX0_begin_33 : decode cX0_begin 33 = .ok (.iaload, 1) := by decide +kernel
theorem dX0_begin_34 : decode cX0_begin 34 = .ok (.iadd, 1) := by decide +kernel
theorem dX0_begin_35 : decode cX0_begin 35 = .ok (.istore_n 3, 1) := by decide +kernel
theorem dX0_begin_36 : decode cX0_begin 36 = .ok (.iload_n 3, 1) := by decide +kernel
theorem dX0_begin_37 : decode cX0_begin 37 = .ok (.ifCond .lt 12, 3) := by decide +kernel
theorem dX0_begin_40 : decode cX0_begin 40 = .ok (.iload_n 3, 1) := by decide +kernel
theorem dX0_begin_41 : decode cX0_begin 41 = .ok (.aload_n 0, 1) := by decide +kernel
theorem dX0_begin_42 : decode cX0_begin 42 = .ok (.getfield 11, 3) := by decide +kernel
theorem dX0_begin_45 : decode cX0_begin 45 = .ok (.arraylength, 1) := by decide +kernel
theorem dX0_begin_46 : decode cX0_begin 46 = .ok (.if_icmp .lt 8, 3) := by decide +kernel
theorem dX0_begin_49 : decode cX0_begin 49 = .ok (.aload_n 0, 1) := by decide +kernel
theorem dX0_begin_50 : decode cX0_begin 50 = .ok (.getfield 28, 3) := by decide +kernel
theorem dX0_begin_53 : decode cX0_begin 53 = .ok (.areturn, 1) := by decide +kernel
theorem dX0_begin_54 : decode cX0_begin 54 = .ok (.aload_n 0, 1) := by decide +kernel
theorem dX0_begin_55 : decode cX0_begin 55 = .ok (.getfield 11, 3) := by decide +kernel
theorem dX0_begin_58 : decode cX0_begin 58 = .ok (.iload_n 3, 1) := by decide +kernel
theorem dX0_begin_59 : decode cX0_begin 59 = .ok (.aaload, 1) := by decide +kernel
theorem dX0_begin_60 : decode cX0_begin 60 = .ok (.ifnonnull 13, 3) := by decide +kernel
theorem dX0_begin_63 : decode cX0_begin 63 = .ok (.new 9, 3) := by decide +kernel
theorem dX0_begin_66 : decode cX0_begin 66 = .ok (.dup, 1) := by decide +kernel
theorem dX0_begin_67 : decode cX0_begin 67 = .ok (.invokespecial 27, 3) := by decide +kernel
theorem dX0_begin_70 : decode cX0_begin 70 = .ok (.goto 9, 3) := by decide +kernel
theorem dX0_begin_73 : decode cX0_begin 73 = .ok (.aload_n 0, 1) := by decide +kernel
theorem dX0_begin_74 : decode cX0_begin 74 = .ok (.getfield 11, 3) := by decide +kernel
theorem dX0_begin_77 : decode cX0_begin 77 = .ok (.iload_n 3, 1) := by decide +kernel
theorem dX0_begin_78 : decode cX0_begin 78 = .ok (.aaload, 1) := by decide +kernel
theorem dX0_begin_79 : decode cX0_begin 79 = .ok (.astore 4, 2) := by decide +kernel
theorem dX0_begin_81 : decode cX0_begin 81 = .ok (.aload_n 0, 1) := by decide +kernel
theorem dX0_begin_82 : decode cX0_begin 82 = .ok (.getfield 11, 3) := by decide +kernel
theorem dX0_begin_85 : decode cX0_begin 85 = .ok (.iload_n 3, 1) := by decide +kernel
theorem dX0_begin_86 : decode cX0_begin 86 = .ok (.aload 4, 2) := by decide +kernel
theorem dX0_begin_88 : decode cX0_begin 88 = .ok (.aastore, 1) := by decide +kernel
theorem dX0_begin_89 : decode cX0_begin 89 = .ok (.aload_n 0, 1) := by decide +kernel
theorem dX0_begin_90 : decode cX0_begin 90 = .ok (.getfield 21, 3) := by decide +kernel
theorem dX0_begin_93 : decode cX0_begin 93 = .ok (.iload_n 1, 1) := by decide +kernel
theorem dX0_begin_94 : decode cX0_begin 94 = .ok (.dup2, 1) := by decide +kernel
theorem dX0_begin_95 : decode cX0_begin 95 = .ok (.iaload, 1) := by decide +kernel
theorem dX0_begin_96 : decode cX0_begin 96 = .ok (.iconst 1, 1) := by decide +kernel
theorem dX0_begin_97 : decode cX0_begin 97 = .ok (.iadd, 1) := by decide +kernel
theorem dX0_begin_98 : decode cX0_begin 98 = .ok (.iastore, 1) := by decide +kernel
theorem dX0_begin_99 : decode cX0_begin 99 = .ok (.aload 4, 2) := by decide +kernel
theorem dX0_begin_101 : decode cX0_begin 101 = .ok (.aload_n 2, 1) := by decide +kernel
theorem dX0_begin_102 : decode cX0_begin 102 = .ok (.invokevirtual 83, 3) := by decide +kernel
theorem dX0_begin_105 : decode cX0_begin 105 = .ok (.aload 4, 2) := by decide +kernel
theorem dX0_begin_107 : decode cX0_begin 107 = .ok (.areturn, 1) := by decide +kernel
theorem dX0_erase_0 : decode cX0_erase 0 = .ok (.aload_n 0, 1) := by decide +kernel
theorem dX0_erase_1 : decode cX0_erase 1 = .ok (.iload_n 1, 1) := by decide +kernel
theorem dX0_erase_2 : decode cX0_erase 2 = .ok (.invokevirtual 36, 3) := by decide +kernel
theorem dX0_erase_5 : decode cX0_erase 5 = .ok (.ifCond .eq 10, 3) := by decide +kernel
theorem dX0_erase_8 : decode cX0_erase 8 = .ok (.aload_n 0, 1) := by decide +kernel
theorem dX0_erase_9 : decode cX0_erase 9 = .ok (.invokevirtual 72, 3) := by decide +kernel
theorem dX0_erase_12 : decode cX0_erase 12 = .ok (.ifCond .ne 5, 3) := by decide +kernel
theorem dX0_erase_15 : decode cX0_erase 15 = .ok (.iconst 0, 1) := by decide +kernel
theorem dX0_erase_16 : decode cX0_erase 16 = .ok (.ireturn, 1) := by decide +kernel
theorem dX0_erase_17 : decode cX0_erase 17 = .ok (.iconst 0, 1) := by decide +kernel
theorem dX0_erase_18 : decode cX0_erase 18 = .ok (.istore_n 2, 1) := by decide +kernel
theorem dX0_erase_19 : decode cX0_erase 19 = .ok (.iload_n 2, 1) := by decide +kernel
theorem dX0_erase_20 : decode cX0_erase 20 = .ok (.bipush 16, 2) := by decide +kernel
theorem dX0_erase_22 : decode cX0_erase 22 = .ok (.if_icmp .ge 18, 3) := by decide +kernel
theorem dX0_erase_25 : decode cX0_erase 25 = .ok (.aload_n 0, 1) := by decide +kernel
theorem dX0_erase_26 : decode cX0_erase 26 = .ok (.iload_n 1, 1) := by decide +kernel
theorem dX0_erase_27 : decode cX0_erase 27 = .ok (.iload_n 2, 1) := by decide +kernel
theorem dX0_erase_28 : decode cX0_erase 28 = .ok (.invokevirtual 87, 3) := by decide +kernel
theorem dX0_erase_31 : decode cX0_erase 31 = .ok (.invokevirtual 91, 3) := by decide +kernel
theorem dX0_erase_34 : decode cX0_erase 34 = .ok (.iinc 2 1, 3) := by decide +kernel
theorem dX0_erase_37 : decode cX0_erase 37 = .ok (.goto (-18), 3) := by decide +kernel
theorem dX0_erase_40 : decode cX0_erase 40 = .ok (.aload_n 0, 1) := by decide +kernel
theorem dX0_erase_41 : decode cX0_erase 41 = .ok (.getfield 21, 3) := by decide +kernel
theorem dX0_erase_44 : decode cX0_erase 44 = .ok (.iload_n 1, 1) := by decide +kernel
theorem dX0_erase_45 : decode cX0_erase 45 = .ok (.iconst 0, 1) := by decide +kernel
theorem dX0_erase_46 : decode cX0_erase 46 = .ok (.iastore, 1) := by decide +kernel
theorem dX0_erase_47 : decode cX0_erase 47 = .ok (.aload_n 0, 1) := by decide +kernel
theorem dX0_erase_48 : decode cX0_erase 48 = .ok (.getfield 17, 3) := by decide +kernel
theorem dX0_erase_51 : decode cX0_erase 51 = .ok (.iload_n 1, 1) := by decide +kernel
theorem dX0_erase_52 : decode cX0_erase 52 = .ok (.iconst 0, 1) := by decide +kernel
theorem dX0_erase_53 : decode cX0_erase 53 = .ok (.iastore, 1) := by decide +kernel
theorem dX0_erase_54 : decode cX0_erase 54 = .ok (.aload_n 0, 1) := by decide +kernel
theorem dX0_erase_55 : decode cX0_erase 55 = .ok (.getfield 24, 3) := by decide +kernel
theorem dX0_erase_58 : decode cX0_erase 58 = .ok (.iload_n 1, 1) := by decide +kernel
theorem dX0_erase_59 : decode cX0_erase 59 = .ok (.dup2, 1) := by decide +kernel
theorem dX0_erase_60 : decode cX0_erase 60 = .ok (.iaload, 1) := by decide +kernel
theorem dX0_erase_61 : decode cX0_erase 61 = .ok (.iconst 1, 1) := by decide +kernel
theorem dX0_erase_62 : decode cX0_erase 62 = .ok (.iadd, 1) := by decide +kernel
theorem dX0_erase_63 : decode cX0_erase 63 = .ok (.iastore, 1) := by decide +kernel
theorem dX0_erase_64 : decode cX0_erase 64 = .ok (.aload_n 0, 1) := by decide +kernel
theorem dX0_erase_65 : decode cX0_erase 65 = .ok (.invokevirtual 72, 3) := by decide +kernel
theorem dX0_erase_68 : decode cX0_erase 68 = .ok (.ifCond .ne 5, 3) := by decide +kernel
theorem dX0_erase_71 : decode cX0_erase 71 = .ok (.iconst 0, 1) := by decide +kernel
theorem dX0_erase_72 : decode cX0_erase 72 = .ok (.ireturn, 1) := by decide +kernel
theorem dX0_erase_73 : decode cX0_erase 73 = .ok (.aload_n 0, 1) := by decide +kernel
theorem dX0_erase_74 : decode cX0_erase 74 = .ok (.getfield 17, 3) := by decide +kernel
theorem dX0_erase_77 : decode cX0_erase 77 = .ok (.iload_n 1, 1) := by decide +kernel
theorem dX0_erase_78 : decode cX0_erase 78 = .ok (.iconst 1, 1) := by decide +kernel
theorem dX0_erase_79 : decode cX0_erase 79 = .ok (.iastore, 1) := by decide +kernel
theorem dX0_erase_80 : decode cX0_erase 80 = .ok (.iconst 1, 1) := by decide +kernel
theorem dX0_erase_81 : decode cX0_erase 81 = .ok (.ireturn, 1) := by decide +kernel
theorem dX1_init_0 : decode cX1_init 0 = .ok (.aload_n 0, 1) := by decide +kernel
theorem dX1_init_1 : decode cX1_init 1 = .ok (.invokespecial 3, 3) := by decide +kernel
theorem dX1_init_4 : decode cX1_init 4 = .ok (.aload_n 0, 1) := by decide +kernel
theorem dX1_init_5 : decode cX1_init 5 = .ok (.bipush 100, 2) := by decide +kernel
theorem dX1_init_7 : decode cX1_init 7 = .ok (.newarray .int, 2) := by decide +kernel
theorem dX1_init_9 : decode cX1_init 9 = .ok (.putfield 9, 3) := by decide +kernel
theorem dX1_init_12 : decode cX1_init 12 = .ok (.return_, 1) := by decide +kernel
theorem dX1_begin_0 : decode cX1_begin 0 = .ok (.aload_n 0, 1) := by decide +kernel
theorem dX1_begin_1 : decode cX1_begin 1 = .ok (.iload_n 1, 1) := by decide +kernel
theorem dX1_begin_2 : decode cX1_begin 2 = .ok (.putfield 15, 3) := by decide +kernel
theorem dX1_begin_5 : decode cX1_begin 5 = .ok (.aload_n 0, 1) := by decide +kernel
theorem dX1_begin_6 : decode cX1_begin 6 = .ok (.iload_n 2, 1) := by decide +kernel
theorem dX1_begin_7 : decode cX1_begin 7 = .ok (.putfield 19, 3) := by decide +kernel
theorem dX1_begin_10 : decode cX1_begin 10 = .ok (.aload_n 0, 1) := by decide +kernel
theorem dX1_begin_11 : decode cX1_begin 11 = .ok (.iconst 0, 1) := by decide +kernel
theorem dX1_begin_12 : decode cX1_begin 12 = .ok (.putfield 23, 3) := by decide +kernel
theorem dX1_begin_15 : decode cX1_begin 15 = .ok (.aload_n 0, 1) := by decide +kernel
theorem dX1_begin_16 : decode cX1_begin 16 = .ok (.iconst 0, 1) := by decide +kernel
theorem dX1_begin_17 : decode cX1_begin 17 = .ok (.putfield 26, 3) := by decide +kernel
theorem dX1_begin_20 : decode cX1_begin 20 = .ok (.aload_n 0, 1) := by decide +kernel
theorem dX1_begin_21 : decode cX1_begin 21 = .ok (.iconst 0, 1) := by decide +kernel
theorem dX1_begin_22 : decode cX1_begin 22 = .ok (.putfield 29, 3) := by decide +kernel
theorem dX1_begin_25 : decode cX1_begin 25 = .ok (.aload_n 0, 1) := by decide +kernel
theorem dX1_begin_26 : decode cX1_begin 26 = .ok (.iconst 0, 1) := by decide +kernel
theorem dX1_begin_27 : decode cX1_begin 27 = .ok (.putfield 32, 3) := by decide +kernel
theorem dX1_begin_30 : decode cX1_begin 30 = .ok (.iconst 0, 1) := by decide +kernel
theorem dX1_begin_31 : decode cX1_begin 31 = .ok (.istore_n 3, 1) := by decide +kernel
theorem dX1_begin_32 : decode cX1_begin 32 = .ok (.iload_n 3, 1) := by decide +kernel
theorem dX1_begin_33 : decode cX1_begin 33 = .ok (.aload_n 0, 1) := by decide +kernel
theorem dX1_begin_34 : decode cX1_begin 34 = .ok (.getfield 9, 3) := by decide +kernel
theorem dX1_begin_37 : decode cX1_begin 37 = .ok (.arraylength, 1) := by decide +kernel
theorem dX1_begin_38 : decode cX1_begin 38 = .ok (.if_icmp .ge 16, 3) := by decide +kernel
theorem dX1_begin_41 : decode cX1_begin 41 = .ok (.aload_n 0, 1) := by decide +kernel
theorem dX1_begin_42 : decode cX1_begin 42 = .ok (.getfield 9, 3) := by decide +kernel
theorem dX1_begin_45 : decode cX1_begin 45 = .ok (.iload_n 3, 1) := by decide +kernel
theorem dX1_begin_46 : decode cX1_begin 46 = .ok (.iconst 0, 1) := by decide +kernel
theorem dX1_begin_47 : decode cX1_begin 47 = .ok (.iastore, 1) := by decide +kernel
theorem dX1_begin_48 : decode cX1_begin 48 = .ok (.iinc 3 1, 3) := by decide +kernel
theorem dX1_begin_51 : decode cX1_begin 51 = .ok (.goto (-19), 3) := by decide +kernel
theorem dX1_begin_54 : decode cX1_begin 54 = .ok (.return_, 1) := by decide +kernel
theorem dX1_cell_0 : decode cX1_cell 0 = .ok (.iload_n 1, 1) := by decide +kernel
theorem dX1_cell_1 : decode cX1_cell 1 = .ok (.ifCond .lt 21, 3) := by decide +kernel
theorem dX1_cell_4 : decode cX1_cell 4 = .ok (.iload_n 1, 1) := by decide +kernel
theorem dX1_cell_5 : decode cX1_cell 5 = .ok (.aload_n 0, 1) := by decide +kernel
theorem dX1_cell_6 : decode cX1_cell 6 = .ok (.getfield 9, 3) := by decide +kernel
theorem dX1_cell_9 : decode cX1_cell 9 = .ok (.arraylength, 1) := by decide +kernel
theorem dX1_cell_10 : decode cX1_cell 10 = .ok (.if_icmp .ge 12, 3) := by decide +kernel
theorem dX1_cell_13 : decode cX1_cell 13 = .ok (.aload_n 0, 1) := by decide +kernel
theorem dX1_cell_14 : decode cX1_cell 14 = .ok (.getfield 9, 3) := by decide +kernel
theorem dX1_cell_17 : decode cX1_cell 17 = .ok (.iload_n 1, 1) := by decide +kernel
theorem dX1_cell_18 : decode cX1_cell 18 = .ok (.iaload, 1) := by decide +kernel
theorem dX1_cell_19 : decode cX1_cell 19 = .ok (.goto 4, 3) := by decide +kernel
theorem dX1_cell_22 : decode cX1_cell 22 = .ok (.iconst 0, 1) := by decide +kernel
theorem dX1_cell_23 : decode cX1_cell 23 = .ok (.ireturn, 1) := by decide +kernel
theorem dX1_setCell_0 : decode cX1_setCell 0 = .ok (.iload_n 1, 1) := by decide +kernel
theorem dX1_setCell_1 : decode cX1_setCell 1 = .ok (.ifCond .lt 19, 3) := by decide +kernel
theorem dX1_setCell_4 : decode cX1_setCell 4 = .ok (.iload_n 1, 1) := by decide +kernel
theorem dX1_setCell_5 : decode cX1_setCell 5 = .ok (.aload_n 0, 1) := by decide +kernel
theorem dX1_setCell_6 : decode cX1_setCell 6 = .ok (.getfield 9, 3) := by decide +kernel
theorem dX1_setCell_9 : decode cX1_setCell 9 = .ok (.arraylength, 1) := by decide +kernel
theorem dX1_setCell_10 : decode cX1_setCell 10 = .ok (.if_icmp .ge 10, 3) := by decide +kernel
theorem dX1_setCell_13 : decode cX1_setCell 13 = .ok (.aload_n 0, 1) := by decide +kernel
theorem dX1_setCell_14 : decode cX1_setCell 14 = .ok (.getfield 9, 3) := by decide +kernel
theorem dX1_setCell_17 : decode cX1_setCell 17 = .ok (.iload_n 1, 1) := by decide +kernel
theorem dX1_setCell_18 : decode cX1_setCell 18 = .ok (.iload_n 2, 1) := by decide +kernel
theorem dX1_setCell_19 : decode cX1_setCell 19 = .ok (.iastore, 1) := by decide +kernel
theorem dX1_setCell_20 : decode cX1_setCell 20 = .ok (.return_, 1) := by decide +kernel
theorem dX1_lay_0 : decode cX1_lay 0 = .ok (.aload_n 0, 1) := by decide +kernel
theorem dX1_lay_1 : decode cX1_lay 1 = .ok (.aload_n 1, 1) := by decide +kernel
theorem dX1_lay_2 : decode cX1_lay 2 = .ok (.getfield 35, 3) := by decide +kernel
theorem dX1_lay_5 : decode cX1_lay 5 = .ok (.putfield 32, 3) := by decide +kernel
theorem dX1_lay_8 : decode cX1_lay 8 = .ok (.iconst 0, 1) := by decide +kernel
theorem dX1_lay_9 : decode cX1_lay 9 = .ok (.istore_n 2, 1) := by decide +kernel
theorem dX1_lay_10 : decode cX1_lay 10 = .ok (.iload_n 2, 1) := by decide +kernel
theorem dX1_lay_11 : decode cX1_lay 11 = .ok (.bipush 64, 2) := by decide +kernel
theorem dX1_lay_13 : decode cX1_lay 13 = .ok (.if_icmp .ge 27, 3) := by decide +kernel
theorem dX1_lay_16 : decode cX1_lay 16 = .ok (.aload_n 1, 1) := by decide +kernel
theorem dX1_lay_17 : decode cX1_lay 17 = .ok (.iload_n 2, 1) := by decide +kernel
theorem dX1_lay_18 : decode cX1_lay 18 = .ok (.invokevirtual 38, 3) := by decide +kernel
theorem dX1_lay_21 : decode cX1_lay 21 = .ok (.ifCond .eq 13, 3) := by decide +kernel
theorem dX1_lay_24 : decode cX1_lay 24 = .ok (.aload_n 0, 1) := by decide +kernel
theorem dX1_lay_25 : decode cX1_lay 25 = .ok (.iload_n 2, 1) := by decide +kernel
theorem dX1_lay_26 : decode cX1_lay 26 = .ok (.aload_n 1, 1) := by decide +kernel
theorem dX1_lay_27 : decode cX1_lay 27 = .ok (.iload_n 2, 1) := by decide +kernel
theorem dX1_lay_28 : decode cX1_lay 28 = .ok (.invokevirtual 42, 3) := by decide +kernel
theorem dX1_lay_31 : decode cX1_lay 31 = .ok (.invokevirtual 46, 3) := by decide +kernel
theorem dX1_lay_34 : decode cX1_lay 34 = .ok (.iinc 2 1, 3) := by decide +kernel
theorem dX1_lay_37 : decode cX1_lay 37 = .ok (.goto (-27), 3) := by decide +kernel
theorem dX1_lay_40 : decode cX1_lay 40 = .ok (.aload_n 0, 1) := by decide +kernel
theorem dX1_lay_41 : decode cX1_lay 41 = .ok (.aload_n 1, 1) := by decide +kernel
theorem dX1_lay_42 : decode cX1_lay 42 = .ok (.getfield 50, 3) := by decide +kernel
theorem dX1_lay_45 : decode cX1_lay 45 = .ok (.putfield 23, 3) := by decide +kernel
theorem dX1_lay_48 : decode cX1_lay 48 = .ok (.return_, 1) := by decide +kernel
theorem dX1_nameBehind_0 : decode cX1_nameBehind 0 = .ok (.iconst 0, 1) := by decide +kernel
theorem dX1_nameBehind_1 : decode cX1_nameBehind 1 = .ok (.istore_n 2, 1) := by decide +kernel
theorem dX1_nameBehind_2 : decode cX1_nameBehind 2 = .ok (.iconst 1, 1) := by decide +kernel
theorem dX1_nameBehind_3 : decode cX1_nameBehind 3 = .ok (.istore_n 3, 1) := by decide +kernel
theorem dX1_nameBehind_4 : decode cX1_nameBehind 4 = .ok (.iload_n 3, 1) := by decide +kernel
theorem dX1_nameBehind_5 : decode cX1_nameBehind 5 = .ok (.bipush 99, 2) := by decide +kernel
theorem dX1_nameBehind_7 : decode cX1_nameBehind 7 = .ok (.if_icmp .gt 27, 3) := by decide +kernel
theorem dX1_nameBehind_10 : decode cX1_nameBehind 10 = .ok (.aload_n 0, 1) := by decide +kernel
theorem dX1_nameBehind_11 : decode cX1_nameBehind 11 = .ok (.iload_n 3, 1) := by decide +kernel
theorem dX1_nameBehind_12 : decode cX1_nameBehind 12 = .ok (.invokevirtual 51, 3) := by decide +kernel
theorem dX1_nameBehind_15 : decode cX1_nameBehind 15 = .ok (.ifCond .eq 13, 3) := by decide +kernel
theorem dX1_nameBehind_18 : decode cX1_nameBehind 18 = .ok (.iload_n 2, 1) := by decide +kernel
theorem dX1_nameBehind_19 : decode cX1_nameBehind 19 = .ok (.iload_n 1, 1) := by decide +kernel
theorem dX1_nameBehind_20 : decode cX1_nameBehind 20 = .ok (.if_icmp .ne 5, 3) := by decide +kernel
theorem dX1_nameBehind_23 : decode cX1_nameBehind 23 = .ok (.iload_n 3, 1) := by decide +kernel
theorem dX1_nameBehind_24 : decode cX1_nameBehind 24 = .ok (.ireturn, 1) := by decide +kernel
theorem dX1_nameBehind_25 : decode cX1_nameBehind 25 = .ok (.iinc 2 1, 3) := by decide +kernel
theorem dX1_nameBehind_28 : decode cX1_nameBehind 28 = .ok (.iinc 3 1, 3) := by decide +kernel
theorem dX1_nameBehind_31 : decode cX1_nameBehind 31 = .ok (.goto (-27), 3) := by decide +kernel
theorem dX1_nameBehind_34 : decode cX1_nameBehind 34 = .ok (.iconst (-1), 1) := by decide +kernel
theorem dX1_nameBehind_35 : decode cX1_nameBehind 35 = .ok (.ireturn, 1) := by decide +kernel
theorem dX2_init_0 : decode cX2_init 0 = .ok (.aload_n 0, 1) := by decide +kernel
theorem dX2_init_1 : decode cX2_init 1 = .ok (.invokespecial 3, 3) := by decide +kernel
theorem dX2_init_4 : decode cX2_init 4 = .ok (.aload_n 0, 1) := by decide +kernel
theorem dX2_init_5 : decode cX2_init 5 = .ok (.bipush 16, 2) := by decide +kernel
theorem dX2_init_7 : decode cX2_init 7 = .ok (.anewarray 9, 3) := by decide +kernel
theorem dX2_init_10 : decode cX2_init 10 = .ok (.putfield 11, 3) := by decide +kernel
theorem dX2_init_13 : decode cX2_init 13 = .ok (.aload_n 0, 1) := by decide +kernel
theorem dX2_init_14 : decode cX2_init 14 = .ok (.new 9, 3) := by decide +kernel
theorem dX2_init_17 : decode cX2_init 17 = .ok (.dup, 1) := by decide +kernel
theorem dX2_init_18 : decode cX2_init 18 = .ok (.invokespecial 17, 3) := by decide +kernel
theorem dX2_init_21 : decode cX2_init 21 = .ok (.putfield 18, 3) := by decide +kernel
theorem dX2_init_24 : decode cX2_init 24 = .ok (.aload_n 0, 1) := by decide +kernel
theorem dX2_init_25 : decode cX2_init 25 = .ok (.aload_n 1, 1) := by decide +kernel
theorem dX2_init_26 : decode cX2_init 26 = .ok (.putfield 22, 3) := by decide +kernel
theorem dX2_init_29 : decode cX2_init 29 = .ok (.aload_n 0, 1) := by decide +kernel
theorem dX2_init_30 : decode cX2_init 30 = .ok (.aload_n 2, 1) := by decide +kernel
theorem dX2_init_31 : decode cX2_init 31 = .ok (.putfield 26, 3) := by decide +kernel
theorem dX2_init_34 : decode cX2_init 34 = .ok (.return_, 1) := by decide +kernel
theorem dX2_isLive_0 : decode cX2_isLive 0 = .ok (.aload_n 0, 1) := by decide +kernel
theorem dX2_isLive_1 : decode cX2_isLive 1 = .ok (.getfield 26, 3) := by decide +kernel
theorem dX2_isLive_4 : decode cX2_isLive 4 = .ok (.aload_n 1, 1) := by decide +kernel
theorem dX2_isLive_5 : decode cX2_isLive 5 = .ok (.getfield 30, 3) := by decide +kernel
theorem dX2_isLive_8 : decode cX2_isLive 8 = .ok (.aload_n 1, 1) := by decide +kernel
theorem dX2_isLive_9 : decode cX2_isLive 9 = .ok (.getfield 34, 3) := by decide +kernel
theorem dX2_isLive_12 : decode cX2_isLive 12 = .ok (.iconst 2, 1) := by decide +kernel
theorem dX2_isLive_13 : decode cX2_isLive 13 = .ok (.if_icmp .ne 7, 3) := by decide +kernel
theorem dX2_isLive_16 : decode cX2_isLive 16 = .ok (.iconst 1, 1) := by decide +kernel
theorem dX2_isLive_17 : decode cX2_isLive 17 = .ok (.goto 4, 3) := by decide +kernel
theorem dX2_isLive_20 : decode cX2_isLive 20 = .ok (.iconst 0, 1) := by decide +kernel
theorem dX2_isLive_21 : decode cX2_isLive 21 = .ok (.invokevirtual 37, 3) := by decide +kernel
theorem dX2_isLive_24 : decode cX2_isLive 24 = .ok (.ifCond .ne 5, 3) := by decide +kernel
theorem dX2_isLive_27 : decode cX2_isLive 27 = .ok (.iconst 0, 1) := by decide +kernel
theorem dX2_isLive_28 : decode cX2_isLive 28 = .ok (.ireturn, 1) := by decide +kernel
theorem dX2_isLive_29 : decode cX2_isLive 29 = .ok (.aload_n 1, 1) := by decide +kernel
theorem dX2_isLive_30 : decode cX2_isLive 30 = .ok (.getfield 34, 3) := by decide +kernel
theorem dX2_isLive_33 : decode cX2_isLive 33 = .ok (.iconst 2, 1) := by decide +kernel
theorem dX2_isLive_34 : decode cX2_isLive 34 = .ok (.if_icmp .ne 38, 3) := by decide +kernel
theorem dX2_isLive_37 : decode cX2_isLive 37 = .ok (.aload_n 1, 1) := by decide +kernel
theorem dX2_isLive_38 : decode cX2_isLive 38 = .ok (.getfield 43, 3) := by decide +kernel
theorem dX2_isLive_41 : decode cX2_isLive 41 = .ok (.ifCond .eq 29, 3) := by decide +kernel
theorem dX2_isLive_44 : decode cX2_isLive 44 = .ok (.aload_n 0, 1) := by decide +kernel
theorem dX2_isLive_45 : decode cX2_isLive 45 = .ok (.getfield 22, 3) := by decide +kernel
theorem dX2_isLive_48 : decode cX2_isLive 48 = .ok (.iconst 2, 1) := by decide +kernel
theorem dX2_isLive_49 : decode cX2_isLive 49 = .ok (.aload_n 1, 1) := by decide +kernel
theorem dX2_isLive_50 : decode cX2_isLive 50 = .ok (.getfield 30, 3) := by decide +kernel
theorem dX2_isLive_53 : decode cX2_isLive 53 = .ok (.aload_n 1, 1) := by decide +kernel
theorem dX2_isLive_54 : decode cX2_isLive 54 = .ok (.getfield 46, 3) := by decide +kernel
theorem dX2_isLive_57 : decode cX2_isLive 57 = .ok (.ldc 49, 2) := by decide +kernel
theorem dX2_isLive_59 : decode cX2_isLive 59 = .ok (.invokevirtual 50, 3) := by decide +kernel
theorem dX2_isLive_62 : decode cX2_isLive 62 = .ok (.aload_n 1, 1) := by decide +kernel
theorem dX2_isLive_63 : decode cX2_isLive 63 = .ok (.if_acmp .ne 7, 3) := by decide +kernel
theorem dX2_isLive_66 : decode cX2_isLive 66 = .ok (.iconst 1, 1) := by decide +kernel
theorem dX2_isLive_67 : decode cX2_isLive 67 = .ok (.goto 4, 3) := by decide +kernel
theorem dX2_isLive_70 : decode cX2_isLive 70 = .ok (.iconst 0, 1) := by decide +kernel
theorem dX2_isLive_71 : decode cX2_isLive 71 = .ok (.ireturn, 1) := by decide +kernel
theorem dX2_isLive_72 : decode cX2_isLive 72 = .ok (.aload_n 0, 1) := by decide +kernel
theorem dX2_isLive_73 : decode cX2_isLive 73 = .ok (.getfield 22, 3) := by decide +kernel
theorem dX2_isLive_76 : decode cX2_isLive 76 = .ok (.aload_n 1, 1) := by decide +kernel
theorem dX2_isLive_77 : decode cX2_isLive 77 = .ok (.invokevirtual 56, 3) := by decide +kernel
theorem dX2_isLive_80 : decode cX2_isLive 80 = .ok (.aload_n 1, 1) := by decide +kernel
theorem dX2_isLive_81 : decode cX2_isLive 81 = .ok (.if_acmp .eq 5, 3) := by decide +kernel
theorem dX2_isLive_84 : decode cX2_isLive 84 = .ok (.iconst 0, 1) := by decide +kernel
theorem dX2_isLive_85 : decode cX2_isLive 85 = .ok (.ireturn, 1) := by decide +kernel
theorem dX2_isLive_86 : decode cX2_isLive 86 = .ok (.aload_n 0, 1) := by decide +kernel
theorem dX2_isLive_87 : decode cX2_isLive 87 = .ok (.getfield 22, 3) := by decide +kernel
theorem dX2_isLive_90 : decode cX2_isLive 90 = .ok (.iconst 1, 1) := by decide +kernel
theorem dX2_isLive_91 : decode cX2_isLive 91 = .ok (.aload_n 1, 1) := by decide +kernel
theorem dX2_isLive_92 : decode cX2_isLive 92 = .ok (.getfield 30, 3) := by decide +kernel
theorem dX2_isLive_95 : decode cX2_isLive 95 = .ok (.bipush 64, 2) := by decide +kernel
theorem dX2_isLive_97 : decode cX2_isLive 97 = .ok (.ldc 49, 2) := by decide +kernel
theorem dX2_isLive_99 : decode cX2_isLive 99 = .ok (.invokevirtual 50, 3) := by decide +kernel
theorem dX2_isLive_102 : decode cX2_isLive 102 = .ok (.aload_n 1, 1) := by decide +kernel
theorem dX2_isLive_103 : decode cX2_isLive 103 = .ok (.if_acmp .eq 25, 3) := by decide +kernel
theorem dX2_isLive_106 : decode cX2_isLive 106 = .ok (.aload_n 1, 1) := by decide +kernel
theorem dX2_isLive_107 : decode cX2_isLive 107 = .ok (.getfield 60, 3) := by decide +kernel
theorem dX2_isLive_110 : decode cX2_isLive 110 = .ok (.aload_n 0, 1) := by decide +kernel
theorem dX2_isLive_111 : decode cX2_isLive 111 = .ok (.getfield 22, 3) := by decide +kernel
theorem dX2_isLive_114 : decode cX2_isLive 114 = .ok (.aload_n 1, 1) := by decide +kernel
theorem dX2_isLive_115 : decode cX2_isLive 115 = .ok (.invokevirtual 64, 3) := by decide +kernel
theorem dX2_isLive_118 : decode cX2_isLive 118 = .ok (.ldc2_w 68, 3) := by decide +kernel
theorem dX2_isLive_121 : decode cX2_isLive 121 = .ok (.lxor, 1) := by decide +kernel
theorem dX2_isLive_122 : decode cX2_isLive 122 = .ok (.land, 1) := by decide +kernel
theorem dX2_isLive_123 : decode cX2_isLive 123 = .ok (.lconst 0, 1) := by decide +kernel
theorem dX2_isLive_124 : decode cX2_isLive 124 = .ok (.lcmp, 1) := by decide +kernel
theorem dX2_isLive_125 : decode cX2_isLive 125 = .ok (.ifCond .eq 7, 3) := by decide +kernel
theorem dX2_isLive_128 : decode cX2_isLive 128 = .ok (.iconst 1, 1) := by decide +kernel
theorem dX2_isLive_129 : decode cX2_isLive 129 = .ok (.goto 4, 3) := by decide +kernel
theorem dX2_isLive_132 : decode cX2_isLive 132 = .ok (.iconst 0, 1) := by decide +kernel
theorem dX2_isLive_133 : decode cX2_isLive 133 = .ok (.ireturn, 1) := by decide +kernel
theorem dX2_isDead_0 : decode cX2_isDead 0 = .ok (.aload_n 1, 1) := by decide +kernel
theorem dX2_isDead_1 : decode cX2_isDead 1 = .ok (.invokevirtual 70, 3) := by decide +kernel
theorem dX2_isDead_4 : decode cX2_isDead 4 = .ok (.ifCond .ne 5, 3) := by decide +kernel
theorem dX2_isDead_7 : decode cX2_isDead 7 = .ok (.iconst 1, 1) := by decide +kernel
theorem dX2_isDead_8 : decode cX2_isDead 8 = .ok (.ireturn, 1) := by decide +kernel
theorem dX2_isDead_9 : decode cX2_isDead 9 = .ok (.aload_n 1, 1) := by decide +kernel
theorem dX2_isDead_10 : decode cX2_isDead 10 = .ok (.getfield 34, 3) := by decide +kernel
theorem dX2_isDead_13 : decode cX2_isDead 13 = .ok (.iconst 3, 1) := by decide +kernel
theorem dX2_isDead_14 : decode cX2_isDead 14 = .ok (.if_icmp .eq 15, 3) := by decide +kernel
theorem dX2_isDead_17 : decode cX2_isDead 17 = .ok (.aload_n 0, 1) := by decide +kernel
theorem dX2_isDead_18 : decode cX2_isDead 18 = .ok (.aload_n 1, 1) := by decide +kernel
theorem dX2_isDead_19 : decode cX2_isDead 19 = .ok (.invokevirtual 74, 3) := by decide +kernel
theorem dX2_isDead_22 : decode cX2_isDead 22 = .ok (.ifCond .ne 7, 3) := by decide +kernel
theorem dX2_isDead_25 : decode cX2_isDead 25 = .ok (.iconst 1, 1) := by decide +kernel
theorem dX2_isDead_26 : decode cX2_isDead 26 = .ok (.goto 4, 3) := by decide +kernel
theorem dX2_isDead_29 : decode cX2_isDead 29 = .ok (.iconst 0, 1) := by decide +kernel
theorem dX2_isDead_30 : decode cX2_isDead 30 = .ok (.ireturn, 1) := by decide +kernel
theorem dX2_dirtOf_0 : decode cX2_dirtOf 0 = .ok (.iconst 0, 1) := by decide +kernel
theorem dX2_dirtOf_1 : decode cX2_dirtOf 1 = .ok (.istore_n 2, 1) := by decide +kernel
theorem dX2_dirtOf_2 : decode cX2_dirtOf 2 = .ok (.iconst 0, 1) := by decide +kernel
theorem dX2_dirtOf_3 : decode cX2_dirtOf 3 = .ok (.istore_n 3, 1) := by decide +kernel
theorem dX2_dirtOf_4 : decode cX2_dirtOf 4 = .ok (.iconst 0, 1) := by decide +kernel
theorem dX2_dirtOf_5 : decode cX2_dirtOf 5 = .ok (.istore 4, 2) := by decide +kernel
theorem dX2_dirtOf_7 : decode cX2_dirtOf 7 = .ok (.iload 4, 2) := by decide +kernel
theorem dX2_dirtOf_9 : decode cX2_dirtOf 9 = .ok (.aload_n 0, 1) := by decide +kernel
theorem dX2_dirtOf_10 : decode cX2_dirtOf 10 = .ok (.getfield 22, 3) := by decide +kernel
theorem dX2_dirtOf_13 : decode cX2_dirtOf 13 = .ok (.iload_n 1, 1) := by decide +kernel
theorem dX2_dirtOf_14 : decode cX2_dirtOf 14 = .ok (.invokevirtual 78, 3) := by decide +kernel
theorem dX2_dirtOf_17 : decode cX2_dirtOf 17 = .ok (.if_icmp .ge 67, 3) := by decide +kernel
theorem dX2_dirtOf_20 : decode cX2_dirtOf 20 = .ok (.aload_n 0, 1) := by decide +kernel
theorem dX2_dirtOf_21 : decode cX2_dirtOf 21 = .ok (.getfield 22, 3) := by decide +kernel
theorem dX2_dirtOf_24 : decode cX2_dirtOf 24 = .ok (.iload_n 1, 1) := by decide +kernel
theorem dX2_dirtOf_25 : decode cX2_dirtOf 25 = .ok (.iload 4, 2) := by decide +kernel
theorem dX2_dirtOf_27 : decode cX2_dirtOf 27 = .ok (.invokevirtual 82, 3) := by decide +kernel
theorem dX2_dirtOf_30 : decode cX2_dirtOf 30 = .ok (.astore 5, 2) := by decide +kernel
theorem dX2_dirtOf_32 : decode cX2_dirtOf 32 = .ok (.aload 5, 2) := by decide +kernel
theorem dX2_dirtOf_34 : decode cX2_dirtOf 34 = .ok (.getfield 34, 3) := by decide +kernel
theorem dX2_dirtOf_37 : decode cX2_dirtOf 37 = .ok (.iconst 3, 1) := by decide +kernel
theorem dX2_dirtOf_38 : decode cX2_dirtOf 38 = .ok (.if_icmp .ne 11, 3) := by decide +kernel
theorem dX2_dirtOf_41 : decode cX2_dirtOf 41 = .ok (.aload 5, 2) := by decide +kernel
theorem dX2_dirtOf_43 : decode cX2_dirtOf 43 = .ok (.invokevirtual 70, 3) := by decide +kernel
theorem dX2_dirtOf_46 : decode cX2_dirtOf 46 = .ok (.ifCond .ne 32, 3) := by decide +kernel
theorem dX2_dirtOf_49 : decode cX2_dirtOf 49 = .ok (.iload_n 3, 1) := by decide +kernel
theorem dX2_dirtOf_50 : decode cX2_dirtOf 50 = .ok (.aload 5, 2) := by decide +kernel
theorem dX2_dirtOf_52 : decode cX2_dirtOf 52 = .ok (.getfield 89, 3) := by decide +kernel
theorem dX2_dirtOf_55 : decode cX2_dirtOf 55 = .ok (.iadd, 1) := by decide +kernel
theorem dX2_dirtOf_56 : decode cX2_dirtOf 56 = .ok (.istore_n 3, 1) := by decide +kernel
theorem dX2_dirtOf_57 : decode cX2_dirtOf 57 = .ok (.iload_n 2, 1) := by decide +kernel
theorem dX2_dirtOf_58 : decode cX2_dirtOf 58 = .ok (.aload_n 0, 1) := by decide +kernel
theorem dX2_dirtOf_59 : decode cX2_dirtOf 59 = .ok (.aload 5, 2) := by decide +kernel
theorem dX2_dirtOf_61 : decode cX2_dirtOf 61 = .ok (.invokevirtual 86, 3) := by decide +kernel
theorem dX2_dirtOf_64 : decode cX2_dirtOf 64 = .ok (.ifCond .eq 11, 3) := by decide +kernel
theorem dX2_dirtOf_67 : decode cX2_dirtOf 67 = .ok (.aload 5, 2) := by decide +kernel
theorem dX2_dirtOf_69 : decode cX2_dirtOf 69 = .ok (.getfield 89, 3) := by decide +kernel
theorem dX2_dirtOf_72 : decode cX2_dirtOf 72 = .ok (.goto 4, 3) := by decide +kernel
theorem dX2_dirtOf_75 : decode cX2_dirtOf 75 = .ok (.iconst 0, 1) := by decide +kernel
theorem dX2_dirtOf_76 : decode cX2_dirtOf 76 = .ok (.iadd, 1) := by decide +kernel
theorem dX2_dirtOf_77 : decode cX2_dirtOf 77 = .ok (.istore_n 2, 1) := by decide +kernel
theorem dX2_dirtOf_78 : decode cX2_dirtOf 78 = .ok (.iinc 4 1, 3) := by decide +kernel
theorem dX2_dirtOf_81 : decode cX2_dirtOf 81 = .ok (.goto (-74), 3) := by decide +kernel
theorem dX2_dirtOf_84 : decode cX2_dirtOf 84 = .ok (.iload_n 2, 1) := by decide +kernel
theorem dX2_dirtOf_85 : decode cX2_dirtOf 85 = .ok (.ifCond .ne 5, 3) := by decide +kernel
theorem dX2_dirtOf_88 : decode cX2_dirtOf 88 = .ok (.iconst 2, 1) := by decide +kernel
theorem dX2_dirtOf_89 : decode cX2_dirtOf 89 = .ok (.ireturn, 1) := by decide +kernel
theorem dX2_dirtOf_90 : decode cX2_dirtOf 90 = .ok (.iload_n 2, 1) := by decide +kernel
theorem dX2_dirtOf_91 : decode cX2_dirtOf 91 = .ok (.iconst 2, 1) := by decide +kernel
theorem dX2_dirtOf_92 : decode cX2_dirtOf 92 = .ok (.imul, 1) := by decide +kernel
theorem dX2_dirtOf_93 : decode cX2_dirtOf 93 = .ok (.iload_n 3, 1) := by decide +kernel
theorem dX2_dirtOf_94 : decode cX2_dirtOf 94 = .ok (.if_icmp .lt 7, 3) := by decide +kernel
theorem dX2_dirtOf_97 : decode cX2_dirtOf 97 = .ok (.iconst 4, 1) := by decide +kernel
theorem dX2_dirtOf_98 : decode cX2_dirtOf 98 = .ok (.goto 4, 3) := by decide +kernel
theorem dX2_dirtOf_101 : decode cX2_dirtOf 101 = .ok (.iconst 3, 1) := by decide +kernel
theorem dX2_dirtOf_102 : decode cX2_dirtOf 102 = .ok (.ireturn, 1) := by decide +kernel
theorem dX2_chosenAt_0 : decode cX2_chosenAt 0 = .ok (.iload_n 1, 1) := by decide +kernel
theorem dX2_chosenAt_1 : decode cX2_chosenAt 1 = .ok (.ifCond .lt 26, 3) := by decide +kernel
theorem dX2_chosenAt_4 : decode cX2_chosenAt 4 = .ok (.iload_n 1, 1) := by decide +kernel
theorem dX2_chosenAt_5 : decode cX2_chosenAt 5 = .ok (.aload_n 0, 1) := by decide +kernel
theorem dX2_chosenAt_6 : decode cX2_chosenAt 6 = .ok (.getfield 92, 3) := by decide +kernel
theorem dX2_chosenAt_9 : decode cX2_chosenAt 9 = .ok (.if_icmp .ge 18, 3) := by decide +kernel
theorem dX2_chosenAt_12 : decode cX2_chosenAt 12 = .ok (.iload_n 1, 1) := by decide +kernel
theorem dX2_chosenAt_13 : decode cX2_chosenAt 13 = .ok (.bipush 16, 2) := by decide +kernel
theorem dX2_chosenAt_15 : decode cX2_chosenAt 15 = .ok (.if_icmp .ge 12, 3) := by decide +kernel
theorem dX2_chosenAt_18 : decode cX2_chosenAt 18 = .ok (.aload_n 0, 1) := by decide +kernel
theorem dX2_chosenAt_19 : decode cX2_chosenAt 19 = .ok (.getfield 11, 3) := by decide +kernel
theorem dX2_chosenAt_22 : decode cX2_chosenAt 22 = .ok (.iload_n 1, 1) := by decide +kernel
theorem dX2_chosenAt_23 : decode cX2_chosenAt 23 = .ok (.aaload, 1) := by decide +kernel
theorem dX2_chosenAt_24 : decode cX2_chosenAt 24 = .ok (.goto 4, 3) := by decide +kernel
theorem dX2_chosenAt_27 : decode cX2_chosenAt 27 = .ok (.aconst_null, 1) := by decide +kernel
theorem dX2_chosenAt_28 : decode cX2_chosenAt 28 = .ok (.astore_n 2, 1) := by decide +kernel
theorem dX2_chosenAt_29 : decode cX2_chosenAt 29 = .ok (.aload_n 2, 1) := by decide +kernel
theorem dX2_chosenAt_30 : decode cX2_chosenAt 30 = .ok (.ifnonnull 10, 3) := by decide +kernel
theorem dX2_chosenAt_33 : decode cX2_chosenAt 33 = .ok (.aload_n 0, 1) := by decide +kernel
theorem dX2_chosenAt_34 : decode cX2_chosenAt 34 = .ok (.getfield 18, 3) := by decide +kernel
theorem dX2_chosenAt_37 : decode cX2_chosenAt 37 = .ok (.goto 4, 3) := by decide +kernel
theorem dX2_chosenAt_40 : decode cX2_chosenAt 40 = .ok (.aload_n 2, 1) := by decide +kernel
theorem dX2_chosenAt_41 : decode cX2_chosenAt 41 = .ok (.areturn, 1) := by decide +kernel
theorem dX2_choose_0 : decode cX2_choose 0 = .ok (.aload_n 0, 1) := by decide +kernel
theorem dX2_choose_1 : decode cX2_choose 1 = .ok (.getfield 22, 3) := by decide +kernel
theorem dX2_choose_4 : decode cX2_choose 4 = .ok (.iload_n 1, 1) := by decide +kernel
theorem dX2_choose_5 : decode cX2_choose 5 = .ok (.invokevirtual 78, 3) := by decide +kernel
theorem dX2_choose_8 : decode cX2_choose 8 = .ok (.istore_n 2, 1) := by decide +kernel
theorem dX2_choose_9 : decode cX2_choose 9 = .ok (.iconst 0, 1) := by decide +kernel
theorem dX2_choose_10 : decode cX2_choose 10 = .ok (.istore_n 3, 1) := by decide +kernel
theorem dX2_choose_11 : decode cX2_choose 11 = .ok (.iload_n 3, 1) := by decide +kernel
theorem dX2_choose_12 : decode cX2_choose 12 = .ok (.iload_n 2, 1) := by decide +kernel
theorem dX2_choose_13 : decode cX2_choose 13 = .ok (.if_icmp .ge 31, 3) := by decide +kernel
theorem dX2_choose_16 : decode cX2_choose 16 = .ok (.aload_n 0, 1) := by decide +kernel
theorem dX2_choose_17 : decode cX2_choose 17 = .ok (.getfield 22, 3) := by decide +kernel
theorem dX2_choose_20 : decode cX2_choose 20 = .ok (.iload_n 1, 1) := by decide +kernel
theorem dX2_choose_21 : decode cX2_choose 21 = .ok (.iload_n 3, 1) := by decide +kernel
theorem dX2_choose_22 : decode cX2_choose 22 = .ok (.invokevirtual 82, 3) := by decide +kernel
theorem dX2_choose_25 : decode cX2_choose 25 = .ok (.astore 4, 2) := by decide +kernel
theorem dX2_choose_27 : decode cX2_choose 27 = .ok (.aload 4, 2) := by decide +kernel
theorem dX2_choose_29 : decode cX2_choose 29 = .ok (.aload_n 0, 1) := by decide +kernel
theorem dX2_choose_30 : decode cX2_choose 30 = .ok (.aload 4, 2) := by decide +kernel
theorem dX2_choose_32 : decode cX2_choose 32 = .ok (.invokevirtual 86, 3) := by decide +kernel
theorem dX2_choose_35 : decode cX2_choose 35 = .ok (.putfield 95, 3) := by decide +kernel
theorem dX2_choose_38 : decode cX2_choose 38 = .ok (.iinc 3 1, 3) := by decide +kernel
theorem dX2_choose_41 : decode cX2_choose 41 = .ok (.goto (-30), 3) := by decide +kernel
theorem dX2_choose_44 : decode cX2_choose 44 = .ok (.aload_n 0, 1) := by decide +kernel
theorem dX2_choose_45 : decode cX2_choose 45 = .ok (.iconst 0, 1) := by decide +kernel
theorem dX2_choose_46 : decode cX2_choose 46 = .ok (.putfield 92, 3) := by decide +kernel
theorem dX2_choose_49 : decode cX2_choose 49 = .ok (.iconst 0, 1) := by decide +kernel
theorem dX2_choose_50 : decode cX2_choose 50 = .ok (.istore_n 3, 1) := by decide +kernel
theorem dX2_choose_51 : decode cX2_choose 51 = .ok (.iload_n 3, 1) := by decide +kernel
theorem dX2_choose_52 : decode cX2_choose 52 = .ok (.iload_n 2, 1) := by decide +kernel
theorem dX2_choose_53 : decode cX2_choose 53 = .ok (.if_icmp .ge 22, 3) := by decide +kernel
theorem dX2_choose_56 : decode cX2_choose 56 = .ok (.aload_n 0, 1) := by decide +kernel
theorem dX2_choose_57 : decode cX2_choose 57 = .ok (.aload_n 0, 1) := by decide +kernel
theorem dX2_choose_58 : decode cX2_choose 58 = .ok (.getfield 22, 3) := by decide +kernel
theorem dX2_choose_61 : decode cX2_choose 61 = .ok (.iload_n 1, 1) := by decide +kernel
theorem dX2_choose_62 : decode cX2_choose 62 = .ok (.iload_n 3, 1) := by decide +kernel
theorem dX2_choose_63 : decode cX2_choose 63 = .ok (.invokevirtual 82, 3) := by decide +kernel
theorem dX2_choose_66 : decode cX2_choose 66 = .ok (.invokevirtual 99, 3) := by decide +kernel
theorem dX2_choose_69 : decode cX2_choose 69 = .ok (.iinc 3 1, 3) := by decide +kernel
theorem dX2_choose_72 : decode cX2_choose 72 = .ok (.goto (-21), 3) := by decide +kernel
theorem dX2_choose_75 : decode cX2_choose 75 = .ok (.iconst 0, 1) := by decide +kernel
theorem dX2_choose_76 : decode cX2_choose 76 = .ok (.istore_n 3, 1) := by decide +kernel
theorem dX2_choose_77 : decode cX2_choose 77 = .ok (.iload_n 3, 1) := by decide +kernel
theorem dX2_choose_78 : decode cX2_choose 78 = .ok (.iload_n 2, 1) := by decide +kernel
theorem dX2_choose_79 : decode cX2_choose 79 = .ok (.if_icmp .ge 22, 3) := by decide +kernel
theorem dX2_choose_82 : decode cX2_choose 82 = .ok (.aload_n 0, 1) := by decide +kernel
theorem dX2_choose_83 : decode cX2_choose 83 = .ok (.getfield 22, 3) := by decide +kernel
theorem dX2_choose_86 : decode cX2_choose 86 = .ok (.iload_n 1, 1) := by decide +kernel
theorem dX2_choose_87 : decode cX2_choose 87 = .ok (.iload_n 3, 1) := by decide +kernel
theorem dX2_choose_88 : decode cX2_choose 88 = .ok (.invokevirtual 82, 3) := by decide +kernel
theorem dX2_choose_91 : decode cX2_choose 91 = .ok (.iconst 0, 1) := by decide +kernel
theorem dX2_choose_92 : decode cX2_choose 92 = .ok (.putfield 103, 3) := by decide +kernel
theorem dX2_choose_95 : decode cX2_choose 95 = .ok (.iinc 3 1, 3) := by decide +kernel
theorem dX2_choose_98 : decode cX2_choose 98 = .ok (.goto (-21), 3) := by decide +kernel
theorem dX2_choose_101 : decode cX2_choose 101 = .ok (.aload_n 0, 1) := by decide +kernel
theorem dX2_choose_102 : decode cX2_choose 102 = .ok (.getfield 92, 3) := by decide +kernel
theorem dX2_choose_105 : decode cX2_choose 105 = .ok (.ireturn, 1) := by decide +kernel
theorem dX2_lookAt_0 : decode cX2_lookAt 0 = .ok (.aload_n 1, 1) := by decide +kernel
theorem dX2_lookAt_1 : decode cX2_lookAt 1 = .ok (.invokevirtual 70, 3) := by decide +kernel
theorem dX2_lookAt_4 : decode cX2_lookAt 4 = .ok (.ifCond .eq 11, 3) := by decide +kernel
theorem dX2_lookAt_7 : decode cX2_lookAt 7 = .ok (.aload_n 1, 1) := by decide +kernel
theorem dX2_lookAt_8 : decode cX2_lookAt 8 = .ok (.getfield 34, 3) := by decide +kernel
theorem dX2_lookAt_11 : decode cX2_lookAt 11 = .ok (.iconst 3, 1) := by decide +kernel
theorem dX2_lookAt_12 : decode cX2_lookAt 12 = .ok (.if_icmp .ne 4, 3) := by decide +kernel
theorem dX2_lookAt_15 : decode cX2_lookAt 15 = .ok (.return_, 1) := by decide +kernel
theorem dX2_lookAt_16 : decode cX2_lookAt 16 = .ok (.aload_n 1, 1) := by decide +kernel
theorem dX2_lookAt_17 : decode cX2_lookAt 17 = .ok (.getfield 95, 3) := by decide +kernel
theorem dX2_lookAt_20 : decode cX2_lookAt 20 = .ok (.ifCond .eq 19, 3) := by decide +kernel
theorem dX2_lookAt_23 : decode cX2_lookAt 23 = .ok (.aload_n 0, 1) := by decide +kernel
theorem dX2_lookAt_24 : decode cX2_lookAt 24 = .ok (.aload_n 1, 1) := by decide +kernel
theorem dX2_lookAt_25 : decode cX2_lookAt 25 = .ok (.invokevirtual 106, 3) := by decide +kernel
theorem dX2_lookAt_28 : decode cX2_lookAt 28 = .ok (.ifCond .ne 11, 3) := by decide +kernel
theorem dX2_lookAt_31 : decode cX2_lookAt 31 = .ok (.aload_n 1, 1) := by decide +kernel
theorem dX2_lookAt_32 : decode cX2_lookAt 32 = .ok (.iconst 1, 1) := by decide +kernel
theorem dX2_lookAt_33 : decode cX2_lookAt 33 = .ok (.putfield 103, 3) := by decide +kernel
theorem dX2_lookAt_36 : decode cX2_lookAt 36 = .ok (.goto 39, 3) := by decide +kernel
theorem dX2_lookAt_39 : decode cX2_lookAt 39 = .ok (.aload_n 0, 1) := by decide +kernel
theorem dX2_lookAt_40 : decode cX2_lookAt 40 = .ok (.getfield 92, 3) := by decide +kernel
theorem dX2_lookAt_43 : decode cX2_lookAt 43 = .ok (.ifCond .lt 32, 3) := by decide +kernel
theorem dX2_lookAt_46 : decode cX2_lookAt 46 = .ok (.aload_n 0, 1) := by decide +kernel
theorem dX2_lookAt_47 : decode cX2_lookAt 47 = .ok (.getfield 92, 3) := by decide +kernel
theorem dX2_lookAt_50 : decode cX2_lookAt 50 = .ok (.bipush 16, 2) := by decide +kernel
theorem dX2_lookAt_52 : decode cX2_lookAt 52 = .ok (.if_icmp .ge 23, 3) := by decide +kernel
theorem dX2_lookAt_55 : decode cX2_lookAt 55 = .ok (.aload_n 0, 1) := by decide +kernel
theorem dX2_lookAt_56 : decode cX2_lookAt 56 = .ok (.getfield 11, 3) := by decide +kernel
theorem dX2_lookAt_59 : decode cX2_lookAt 59 = .ok (.aload_n 0, 1) := by decide +kernel
theorem dX2_lookAt_60 : decode cX2_lookAt 60 = .ok (.getfield 92, 3) := by decide +kernel
theorem dX2_lookAt_63 : decode cX2_lookAt 63 = .ok (.aload_n 1, 1) := by decide +kernel
theorem dX2_lookAt_64 : decode cX2_lookAt 64 = .ok (.aastore, 1) := by decide +kernel
theorem dX2_lookAt_65 : decode cX2_lookAt 65 = .ok (.aload_n 0, 1) := by decide +kernel
theorem dX2_lookAt_66 : decode cX2_lookAt 66 = .ok (.dup, 1) := by decide +kernel
theorem dX2_lookAt_67 : decode cX2_lookAt 67 = .ok (.getfield 92, 3) := by decide +kernel
theorem dX2_lookAt_70 : decode cX2_lookAt 70 = .ok (.iconst 1, 1) := by decide +kernel
theorem dX2_lookAt_71 : decode cX2_lookAt 71 = .ok (.iadd, 1) := by decide +kernel
theorem dX2_lookAt_72 : decode cX2_lookAt 72 = .ok (.putfield 92, 3) := by decide +kernel
theorem dX2_lookAt_75 : decode cX2_lookAt 75 = .ok (.return_, 1) := by decide +kernel
theorem dX2_isMissed_0 : decode cX2_isMissed 0 = .ok (.aload_n 0, 1) := by decide +kernel
theorem dX2_isMissed_1 : decode cX2_isMissed 1 = .ok (.getfield 26, 3) := by decide +kernel
theorem dX2_isMissed_4 : decode cX2_isMissed 4 = .ok (.aload_n 1, 1) := by decide +kernel
theorem dX2_isMissed_5 : decode cX2_isMissed 5 = .ok (.getfield 30, 3) := by decide +kernel
theorem dX2_isMissed_8 : decode cX2_isMissed 8 = .ok (.aload_n 1, 1) := by decide +kernel
theorem dX2_isMissed_9 : decode cX2_isMissed 9 = .ok (.getfield 34, 3) := by decide +kernel
theorem dX2_isMissed_12 : decode cX2_isMissed 12 = .ok (.iconst 2, 1) := by decide +kernel
theorem dX2_isMissed_13 : decode cX2_isMissed 13 = .ok (.if_icmp .ne 7, 3) := by decide +kernel
theorem dX2_isMissed_16 : decode cX2_isMissed 16 = .ok (.iconst 1, 1) := by decide +kernel
theorem dX2_isMissed_17 : decode cX2_isMissed 17 = .ok (.goto 4, 3) := by decide +kernel
theorem dX2_isMissed_20 : decode cX2_isMissed 20 = .ok (.iconst 0, 1) := by decide +kernel
theorem dX2_isMissed_21 : decode cX2_isMissed 21 = .ok (.invokevirtual 37, 3) := by decide +kernel
theorem dX2_isMissed_24 : decode cX2_isMissed 24 = .ok (.ifCond .ne 5, 3) := by decide +kernel
theorem dX2_isMissed_27 : decode cX2_isMissed 27 = .ok (.iconst 0, 1) := by decide +kernel
theorem dX2_isMissed_28 : decode cX2_isMissed 28 = .ok (.ireturn, 1) := by decide +kernel
theorem dX2_isMissed_29 : decode cX2_isMissed 29 = .ok (.aload_n 1, 1) := by decide +kernel
theorem dX2_isMissed_30 : decode cX2_isMissed 30 = .ok (.getfield 34, 3) := by decide +kernel
theorem dX2_isMissed_33 : decode cX2_isMissed 33 = .ok (.iconst 2, 1) := by decide +kernel
theorem dX2_isMissed_34 : decode cX2_isMissed 34 = .ok (.if_icmp .ne 11, 3) := by decide +kernel
theorem dX2_isMissed_37 : decode cX2_isMissed 37 = .ok (.aload_n 0, 1) := by decide +kernel
theorem dX2_isMissed_38 : decode cX2_isMissed 38 = .ok (.aload_n 1, 1) := by decide +kernel
theorem dX2_isMissed_39 : decode cX2_isMissed 39 = .ok (.invokevirtual 109, 3) := by decide +kernel
theorem dX2_isMissed_42 : decode cX2_isMissed 42 = .ok (.goto 8, 3) := by decide +kernel
theorem dX2_isMissed_45 : decode cX2_isMissed 45 = .ok (.aload_n 0, 1) := by decide +kernel
theorem dX2_isMissed_46 : decode cX2_isMissed 46 = .ok (.aload_n 1, 1) := by decide +kernel
theorem dX2_isMissed_47 : decode cX2_isMissed 47 = .ok (.invokevirtual 112, 3) := by decide +kernel
theorem dX2_isMissed_50 : decode cX2_isMissed 50 = .ok (.ireturn, 1) := by decide +kernel
theorem dX2_isMissedAsName_0 : decode cX2_isMissedAsName 0 = .ok (.aload_n 0, 1) := by decide +kernel
theorem dX2_isMissedAsName_1 : decode cX2_isMissedAsName 1 = .ok (.getfield 22, 3) := by decide +kernel
theorem dX2_isMissedAsName_4 : decode cX2_isMissedAsName 4 = .ok (.iconst 2, 1) := by decide +kernel
theorem dX2_isMissedAsName_5 : decode cX2_isMissedAsName 5 = .ok (.aload_n 1, 1) := by decide +kernel
theorem dX2_isMissedAsName_6 : decode cX2_isMissedAsName 6 = .ok (.getfield 30, 3) := by decide +kernel
theorem dX2_isMissedAsName_9 : decode cX2_isMissedAsName 9 = .ok (.aload_n 1, 1) := by decide +kernel
theorem dX2_isMissedAsName_10 : decode cX2_isMissedAsName 10 = .ok (.getfield 46, 3) := by decide +kernel
theorem dX2_isMissedAsName_13 : decode cX2_isMissedAsName 13 = .ok (.ldc 49, 2) := by decide +kernel
theorem dX2_isMissedAsName_15 : decode cX2_isMissedAsName 15 = .ok (.invokevirtual 50, 3) := by decide +kernel
theorem dX2_isMissedAsName_18 : decode cX2_isMissedAsName 18 = .ok (.astore_n 2, 1) := by decide +kernel
theorem dX2_isMissedAsName_19 : decode cX2_isMissedAsName 19 = .ok (.aload_n 1, 1) := by decide +kernel
theorem dX2_isMissedAsName_20 : decode cX2_isMissedAsName 20 = .ok (.iconst 1, 1) := by decide +kernel
theorem dX2_isMissedAsName_21 : decode cX2_isMissedAsName 21 = .ok (.putfield 103, 3) := by decide +kernel
theorem dX2_isMissedAsName_24 : decode cX2_isMissedAsName 24 = .ok (.aload_n 0, 1) := by decide +kernel
theorem dX2_isMissedAsName_25 : decode cX2_isMissedAsName 25 = .ok (.getfield 22, 3) := by decide +kernel
theorem dX2_isMissedAsName_28 : decode cX2_isMissedAsName 28 = .ok (.iconst 2, 1) := by decide +kernel
theorem dX2_isMissedAsName_29 : decode cX2_isMissedAsName 29 = .ok (.aload_n 1, 1) := by decide +kernel
theorem dX2_isMissedAsName_30 : decode cX2_isMissedAsName 30 = .ok (.getfield 30, 3) := by decide +kernel
theorem dX2_isMissedAsName_33 : decode cX2_isMissedAsName 33 = .ok (.aload_n 1, 1) := by decide +kernel
theorem dX2_isMissedAsName_34 : decode cX2_isMissedAsName 34 = .ok (.getfield 46, 3) := by decide +kernel
theorem dX2_isMissedAsName_37 : decode cX2_isMissedAsName 37 = .ok (.ldc 49, 2) := by decide +kernel
theorem dX2_isMissedAsName_39 : decode cX2_isMissedAsName 39 = .ok (.invokevirtual 50, 3) := by decide +kernel
theorem dX2_isMissedAsName_42 : decode cX2_isMissedAsName 42 = .ok (.astore_n 3, 1) := by decide +kernel
theorem dX2_isMissedAsName_43 : decode cX2_isMissedAsName 43 = .ok (.aload_n 1, 1) := by decide +kernel
theorem dX2_isMissedAsName_44 : decode cX2_isMissedAsName 44 = .ok (.iconst 0, 1) := by decide +kernel
theorem dX2_isMissedAsName_45 : decode cX2_isMissedAsName 45 = .ok (.putfield 103, 3) := by decide +kernel
theorem dX2_isMissedAsName_48 : decode cX2_isMissedAsName 48 = .ok (.aload_n 0, 1) := by decide +kernel
theorem dX2_isMissedAsName_49 : decode cX2_isMissedAsName 49 = .ok (.aload_n 2, 1) := by decide +kernel
theorem dX2_isMissedAsName_50 : decode cX2_isMissedAsName 50 = .ok (.invokevirtual 115, 3) := by decide +kernel
theorem dX2_isMissedAsName_53 : decode cX2_isMissedAsName 53 = .ok (.aload_n 0, 1) := by decide +kernel
theorem dX2_isMissedAsName_54 : decode cX2_isMissedAsName 54 = .ok (.aload_n 3, 1) := by decide +kernel
theorem dX2_isMissedAsName_55 : decode cX2_isMissedAsName 55 = .ok (.invokevirtual 115, 3) := by decide +kernel
theorem dX2_isMissedAsName_58 : decode cX2_isMissedAsName 58 = .ok (.if_icmp .eq 7, 3) := by decide +kernel
theorem dX2_isMissedAsName_61 : decode cX2_isMissedAsName 61 = .ok (.iconst 1, 1) := by decide +kernel
theorem dX2_isMissedAsName_62 : decode cX2_isMissedAsName 62 = .ok (.goto 4, 3) := by decide +kernel
theorem dX2_isMissedAsName_65 : decode cX2_isMissedAsName 65 = .ok (.iconst 0, 1) := by decide +kernel
theorem dX2_isMissedAsName_66 : decode cX2_isMissedAsName 66 = .ok (.ireturn, 1) := by decide +kernel
theorem dX2_targetOf_0 : decode cX2_targetOf 0 = .ok (.aload_n 1, 1) := by decide +kernel
theorem dX2_targetOf_1 : decode cX2_targetOf 1 = .ok (.ifnonnull 7, 3) := by decide +kernel
theorem dX2_targetOf_4 : decode cX2_targetOf 4 = .ok (.iconst 0, 1) := by decide +kernel
theorem dX2_targetOf_5 : decode cX2_targetOf 5 = .ok (.goto 7, 3) := by decide +kernel
theorem dX2_targetOf_8 : decode cX2_targetOf 8 = .ok (.aload_n 1, 1) := by decide +kernel
theorem dX2_targetOf_9 : decode cX2_targetOf 9 = .ok (.getfield 43, 3) := by decide +kernel
theorem dX2_targetOf_12 : decode cX2_targetOf 12 = .ok (.ireturn, 1) := by decide +kernel
theorem dX2_isMissedAsData_0 : decode cX2_isMissedAsData 0 = .ok (.aload_n 1, 1) := by decide +kernel
theorem dX2_isMissedAsData_1 : decode cX2_isMissedAsData 1 = .ok (.iconst 1, 1) := by decide +kernel
theorem dX2_isMissedAsData_2 : decode cX2_isMissedAsData 2 = .ok (.putfield 103, 3) := by decide +kernel
theorem dX2_isMissedAsData_5 : decode cX2_isMissedAsData 5 = .ok (.aload_n 0, 1) := by decide +kernel
theorem dX2_isMissedAsData_6 : decode cX2_isMissedAsData 6 = .ok (.getfield 22, 3) := by decide +kernel
theorem dX2_isMissedAsData_9 : decode cX2_isMissedAsData 9 = .ok (.aload_n 1, 1) := by decide +kernel
theorem dX2_isMissedAsData_10 : decode cX2_isMissedAsData 10 = .ok (.invokevirtual 56, 3) := by decide +kernel
theorem dX2_isMissedAsData_13 : decode cX2_isMissedAsData 13 = .ok (.ifnull 7, 3) := by decide +kernel
theorem dX2_isMissedAsData_16 : decode cX2_isMissedAsData 16 = .ok (.iconst 1, 1) := by decide +kernel
theorem dX2_isMissedAsData_17 : decode cX2_isMissedAsData 17 = .ok (.goto 4, 3) := by decide +kernel
theorem dX2_isMissedAsData_20 : decode cX2_isMissedAsData 20 = .ok (.iconst 0, 1) := by decide +kernel
theorem dX2_isMissedAsData_21 : decode cX2_isMissedAsData 21 = .ok (.istore_n 2, 1) := by decide +kernel
theorem dX2_isMissedAsData_22 : decode cX2_isMissedAsData 22 = .ok (.aload_n 1, 1) := by decide +kernel
theorem dX2_isMissedAsData_23 : decode cX2_isMissedAsData 23 = .ok (.iconst 0, 1) := by decide +kernel
theorem dX2_isMissedAsData_24 : decode cX2_isMissedAsData 24 = .ok (.putfield 103, 3) := by decide +kernel
theorem dX2_isMissedAsData_27 : decode cX2_isMissedAsData 27 = .ok (.iload_n 2, 1) := by decide +kernel
theorem dX2_isMissedAsData_28 : decode cX2_isMissedAsData 28 = .ok (.ifCond .eq 5, 3) := by decide +kernel
theorem dX2_isMissedAsData_31 : decode cX2_isMissedAsData 31 = .ok (.iconst 0, 1) := by decide +kernel
theorem dX2_isMissedAsData_32 : decode cX2_isMissedAsData 32 = .ok (.ireturn, 1) := by decide +kernel
theorem dX2_isMissedAsData_33 : decode cX2_isMissedAsData 33 = .ok (.aload_n 1, 1) := by decide +kernel
theorem dX2_isMissedAsData_34 : decode cX2_isMissedAsData 34 = .ok (.invokevirtual 119, 3) := by decide +kernel
theorem dX2_isMissedAsData_37 : decode cX2_isMissedAsData 37 = .ok (.aload_n 0, 1) := by decide +kernel
theorem dX2_isMissedAsData_38 : decode cX2_isMissedAsData 38 = .ok (.getfield 22, 3) := by decide +kernel
theorem dX2_isMissedAsData_41 : decode cX2_isMissedAsData 41 = .ok (.aload_n 1, 1) := by decide +kernel
theorem dX2_isMissedAsData_42 : decode cX2_isMissedAsData 42 = .ok (.invokevirtual 64, 3) := by decide +kernel
theorem dX2_isMissedAsData_45 : decode cX2_isMissedAsData 45 = .ok (.ldc2_w 68, 3) := by decide +kernel
theorem dX2_isMissedAsData_48 : decode cX2_isMissedAsData 48 = .ok (.lxor, 1) := by decide +kernel
theorem dX2_isMissedAsData_49 : decode cX2_isMissedAsData 49 = .ok (.land, 1) := by decide +kernel
theorem dX2_isMissedAsData_50 : decode cX2_isMissedAsData 50 = .ok (.lstore_n 3, 1) := by decide +kernel
theorem dX2_isMissedAsData_51 : decode cX2_isMissedAsData 51 = .ok (.iconst 0, 1) := by decide +kernel
theorem dX2_isMissedAsData_52 : decode cX2_isMissedAsData 52 = .ok (.istore 5, 2) := by decide +kernel
theorem dX2_isMissedAsData_54 : decode cX2_isMissedAsData 54 = .ok (.iload 5, 2) := by decide +kernel
theorem dX2_isMissedAsData_56 : decode cX2_isMissedAsData 56 = .ok (.bipush 64, 2) := by decide +kernel
theorem dX2_isMissedAsData_58 : decode cX2_isMissedAsData 58 = .ok (.if_icmp .ge 71, 3) := by decide +kernel
theorem dX2_isMissedAsData_61 : decode cX2_isMissedAsData 61 = .ok (.lload_n 3, 1) := by decide +kernel
theorem dX2_isMissedAsData_62 : decode cX2_isMissedAsData 62 = .ok (.iload 5, 2) := by decide +kernel
theorem dX2_isMissedAsData_64 : decode cX2_isMissedAsData 64 = .ok (.lushr, 1) := by decide +kernel
theorem dX2_isMissedAsData_65 : decode cX2_isMissedAsData 65 = .ok (.lconst 1, 1) := by decide +kernel
theorem dX2_isMissedAsData_66 : decode cX2_isMissedAsData 66 = .ok (.land, 1) := by decide +kernel
theorem dX2_isMissedAsData_67 : decode cX2_isMissedAsData 67 = .ok (.lconst 0, 1) := by decide +kernel
theorem dX2_isMissedAsData_68 : decode cX2_isMissedAsData 68 = .ok (.lcmp, 1) := by decide +kernel
theorem dX2_isMissedAsData_69 : decode cX2_isMissedAsData 69 = .ok (.ifCond .eq 54, 3) := by decide +kernel
theorem dX2_isMissedAsData_72 : decode cX2_isMissedAsData 72 = .ok (.aload_n 0, 1) := by decide +kernel
theorem dX2_isMissedAsData_73 : decode cX2_isMissedAsData 73 = .ok (.getfield 22, 3) := by decide +kernel
theorem dX2_isMissedAsData_76 : decode cX2_isMissedAsData 76 = .ok (.iconst 1, 1) := by decide +kernel
theorem dX2_isMissedAsData_77 : decode cX2_isMissedAsData 77 = .ok (.aload_n 1, 1) := by decide +kernel
theorem dX2_isMissedAsData_78 : decode cX2_isMissedAsData 78 = .ok (.getfield 30, 3) := by decide +kernel
theorem dX2_isMissedAsData_81 : decode cX2_isMissedAsData 81 = .ok (.iload 5, 2) := by decide +kernel
theorem dX2_isMissedAsData_83 : decode cX2_isMissedAsData 83 = .ok (.aload_n 1, 1) := by decide +kernel
theorem dX2_isMissedAsData_84 : decode cX2_isMissedAsData 84 = .ok (.getfield 123, 3) := by decide +kernel
theorem dX2_isMissedAsData_87 : decode cX2_isMissedAsData 87 = .ok (.invokevirtual 50, 3) := by decide +kernel
theorem dX2_isMissedAsData_90 : decode cX2_isMissedAsData 90 = .ok (.astore 6, 2) := by decide +kernel
theorem dX2_isMissedAsData_92 : decode cX2_isMissedAsData 92 = .ok (.aload 6, 2) := by decide +kernel
theorem dX2_isMissedAsData_94 : decode cX2_isMissedAsData 94 = .ok (.ifnonnull 7, 3) := by decide +kernel
theorem dX2_isMissedAsData_97 : decode cX2_isMissedAsData 97 = .ok (.iconst 0, 1) := by decide +kernel
theorem dX2_isMissedAsData_98 : decode cX2_isMissedAsData 98 = .ok (.goto 10, 3) := by decide +kernel
theorem dX2_isMissedAsData_101 : decode cX2_isMissedAsData 101 = .ok (.aload 6, 2) := by decide +kernel
theorem dX2_isMissedAsData_103 : decode cX2_isMissedAsData 103 = .ok (.iload 5, 2) := by decide +kernel
theorem dX2_isMissedAsData_105 : decode cX2_isMissedAsData 105 = .ok (.invokevirtual 126, 3) := by decide +kernel
theorem dX2_isMissedAsData_108 : decode cX2_isMissedAsData 108 = .ok (.istore 7, 2) := by decide +kernel
theorem dX2_isMissedAsData_110 : decode cX2_isMissedAsData 110 = .ok (.iload 7, 2) := by decide +kernel
theorem dX2_isMissedAsData_112 : decode cX2_isMissedAsData 112 = .ok (.aload_n 1, 1) := by decide +kernel
theorem dX2_isMissedAsData_113 : decode cX2_isMissedAsData 113 = .ok (.iload 5, 2) := by decide +kernel
theorem dX2_isMissedAsData_115 : decode cX2_isMissedAsData 115 = .ok (.invokevirtual 126, 3) := by decide +kernel
theorem dX2_isMissedAsData_118 : decode cX2_isMissedAsData 118 = .ok (.if_icmp .eq 5, 3) := by decide +kernel
theorem dX2_isMissedAsData_121 : decode cX2_isMissedAsData 121 = .ok (.iconst 1, 1) := by decide +kernel
theorem dX2_isMissedAsData_122 : decode cX2_isMissedAsData 122 = .ok (.ireturn, 1) := by decide +kernel
theorem dX2_isMissedAsData_123 : decode cX2_isMissedAsData 123 = .ok (.iinc 5 1, 3) := by decide +kernel
theorem dX2_isMissedAsData_126 : decode cX2_isMissedAsData 126 = .ok (.goto (-72), 3) := by decide +kernel
theorem dX2_isMissedAsData_129 : decode cX2_isMissedAsData 129 = .ok (.iconst 0, 1) := by decide +kernel
theorem dX2_isMissedAsData_130 : decode cX2_isMissedAsData 130 = .ok (.ireturn, 1) := by decide +kernel
theorem dX3_init_0 : decode cX3_init 0 = .ok (.aload_n 0, 1) := by decide +kernel
theorem dX3_init_1 : decode cX3_init 1 = .ok (.invokespecial 3, 3) := by decide +kernel
theorem dX3_init_4 : decode cX3_init 4 = .ok (.aload_n 0, 1) := by decide +kernel
theorem dX3_init_5 : decode cX3_init 5 = .ok (.new 9, 3) := by decide +kernel
theorem dX3_init_8 : decode cX3_init 8 = .ok (.dup, 1) := by decide +kernel
theorem dX3_init_9 : decode cX3_init 9 = .ok (.invokespecial 11, 3) := by decide +kernel
theorem dX3_init_12 : decode cX3_init 12 = .ok (.putfield 12, 3) := by decide +kernel
theorem dX3_init_15 : decode cX3_init 15 = .ok (.aload_n 0, 1) := by decide +kernel
theorem dX3_init_16 : decode cX3_init 16 = .ok (.bipush 8, 2) := by decide +kernel
theorem dX3_init_18 : decode cX3_init 18 = .ok (.newarray .int, 2) := by decide +kernel
theorem dX3_init_20 : decode cX3_init 20 = .ok (.putfield 18, 3) := by decide +kernel
theorem dX3_init_23 : decode cX3_init 23 = .ok (.aload_n 0, 1) := by decide +kernel
theorem dX3_init_24 : decode cX3_init 24 = .ok (.bipush 8, 2) := by decide +kernel
theorem dX3_init_26 : decode cX3_init 26 = .ok (.newarray .int, 2) := by decide +kernel
theorem dX3_init_28 : decode cX3_init 28 = .ok (.putfield 22, 3) := by decide +kernel
theorem dX3_init_31 : decode cX3_init 31 = .ok (.aload_n 0, 1) := by decide +kernel
theorem dX3_init_32 : decode cX3_init 32 = .ok (.iconst (-1), 1) := by decide +kernel
theorem dX3_init_33 : decode cX3_init 33 = .ok (.putfield 25, 3) := by decide +kernel
theorem dX3_init_36 : decode cX3_init 36 = .ok (.aload_n 0, 1) := by decide +kernel
theorem dX3_init_37 : decode cX3_init 37 = .ok (.aload_n 1, 1) := by decide +kernel
theorem dX3_init_38 : decode cX3_init 38 = .ok (.putfield 29, 3) := by decide +kernel
theorem dX3_init_41 : decode cX3_init 41 = .ok (.iconst 0, 1) := by decide +kernel
theorem dX3_init_42 : decode cX3_init 42 = .ok (.istore_n 2, 1) := by decide +kernel
theorem dX3_init_43 : decode cX3_init 43 = .ok (.iload_n 2, 1) := by decide +kernel
theorem dX3_init_44 : decode cX3_init 44 = .ok (.bipush 8, 2) := by decide +kernel
theorem dX3_init_46 : decode cX3_init 46 = .ok (.if_icmp .ge 16, 3) := by decide +kernel
theorem dX3_init_49 : decode cX3_init 49 = .ok (.aload_n 0, 1) := by decide +kernel
theorem dX3_init_50 : decode cX3_init 50 = .ok (.getfield 18, 3) := by decide +kernel
theorem dX3_init_53 : decode cX3_init 53 = .ok (.iload_n 2, 1) := by decide +kernel
theorem dX3_init_54 : decode cX3_init 54 = .ok (.iload_n 2, 1) := by decide +kernel
theorem dX3_init_55 : decode cX3_init 55 = .ok (.iastore, 1) := by decide +kernel
theorem dX3_init_56 : decode cX3_init 56 = .ok (.iinc 2 1, 3) := by decide +kernel
theorem dX3_init_59 : decode cX3_init 59 = .ok (.goto (-16), 3) := by decide +kernel
theorem dX3_init_62 : decode cX3_init 62 = .ok (.aload_n 0, 1) := by decide +kernel
theorem dX3_init_63 : decode cX3_init 63 = .ok (.bipush 8, 2) := by decide +kernel
theorem dX3_init_65 : decode cX3_init 65 = .ok (.putfield 33, 3) := by decide +kernel
theorem dX3_init_68 : decode cX3_init 68 = .ok (.return_, 1) := by decide +kernel
theorem dX3_isFree_0 : decode cX3_isFree 0 = .ok (.iconst 0, 1) := by decide +kernel
theorem dX3_isFree_1 : decode cX3_isFree 1 = .ok (.istore_n 2, 1) := by decide +kernel
theorem dX3_isFree_2 : decode cX3_isFree 2 = .ok (.iload_n 2, 1) := by decide +kernel
theorem dX3_isFree_3 : decode cX3_isFree 3 = .ok (.aload_n 0, 1) := by decide +kernel
theorem dX3_isFree_4 : decode cX3_isFree 4 = .ok (.getfield 33, 3) := by decide +kernel
theorem dX3_isFree_7 : decode cX3_isFree 7 = .ok (.if_icmp .ge 27, 3) := by decide +kernel
theorem dX3_isFree_10 : decode cX3_isFree 10 = .ok (.iload_n 2, 1) := by decide +kernel
theorem dX3_isFree_11 : decode cX3_isFree 11 = .ok (.bipush 8, 2) := by decide +kernel
theorem dX3_isFree_13 : decode cX3_isFree 13 = .ok (.if_icmp .ge 21, 3) := by decide +kernel
theorem dX3_isFree_16 : decode cX3_isFree 16 = .ok (.aload_n 0, 1) := by decide +kernel
theorem dX3_isFree_17 : decode cX3_isFree 17 = .ok (.getfield 18, 3) := by decide +kernel
theorem dX3_isFree_20 : decode cX3_isFree 20 = .ok (.iload_n 2, 1) := by decide +kernel
theorem dX3_isFree_21 : decode cX3_isFree 21 = .ok (.iaload, 1) := by decide +kernel
theorem dX3_isFree_22 : decode cX3_isFree 22 = .ok (.iload_n 1, 1) := by decide +kernel
theorem dX3_isFree_23 : decode cX3_isFree 23 = .ok (.if_icmp .ne 5, 3) := by decide +kernel
theorem dX3_isFree_26 : decode cX3_isFree 26 = .ok (.iconst 1, 1) := by decide +kernel
theorem dX3_isFree_27 : decode cX3_isFree 27 = .ok (.ireturn, 1) := by decide +kernel
theorem dX3_isFree_28 : decode cX3_isFree 28 = .ok (.iinc 2 1, 3) := by decide +kernel
theorem dX3_isFree_31 : decode cX3_isFree 31 = .ok (.goto (-29), 3) := by decide +kernel
theorem dX3_isFree_34 : decode cX3_isFree 34 = .ok (.iconst 0, 1) := by decide +kernel
theorem dX3_isFree_35 : decode cX3_isFree 35 = .ok (.ireturn, 1) := by decide +kernel
theorem dX3_closedAt_0 : decode cX3_closedAt 0 = .ok (.iload_n 1, 1) := by decide +kernel
theorem dX3_closedAt_1 : decode cX3_closedAt 1 = .ok (.ifCond .lt 26, 3) := by decide +kernel
theorem dX3_closedAt_4 : decode cX3_closedAt 4 = .ok (.iload_n 1, 1) := by decide +kernel
theorem dX3_closedAt_5 : decode cX3_closedAt 5 = .ok (.aload_n 0, 1) := by decide +kernel
theorem dX3_closedAt_6 : decode cX3_closedAt 6 = .ok (.getfield 36, 3) := by decide +kernel
theorem dX3_closedAt_9 : decode cX3_closedAt 9 = .ok (.if_icmp .ge 18, 3) := by decide +kernel
theorem dX3_closedAt_12 : decode cX3_closedAt 12 = .ok (.iload_n 1, 1) := by decide +kernel
theorem dX3_closedAt_13 : decode cX3_closedAt 13 = .ok (.bipush 8, 2) := by decide +kernel
theorem dX3_closedAt_15 : decode cX3_closedAt 15 = .ok (.if_icmp .ge 12, 3) := by decide +kernel
theorem dX3_closedAt_18 : decode cX3_closedAt 18 = .ok (.aload_n 0, 1) := by decide +kernel
theorem dX3_closedAt_19 : decode cX3_closedAt 19 = .ok (.getfield 22, 3) := by decide +kernel
theorem dX3_closedAt_22 : decode cX3_closedAt 22 = .ok (.iload_n 1, 1) := by decide +kernel
theorem dX3_closedAt_23 : decode cX3_closedAt 23 = .ok (.iaload, 1) := by decide +kernel
theorem dX3_closedAt_24 : decode cX3_closedAt 24 = .ok (.goto 4, 3) := by decide +kernel
theorem dX3_closedAt_27 : decode cX3_closedAt 27 = .ok (.iconst (-1), 1) := by decide +kernel
theorem dX3_closedAt_28 : decode cX3_closedAt 28 = .ok (.ireturn, 1) := by decide +kernel
theorem dX3_addFree_0 : decode cX3_addFree 0 = .ok (.aload_n 0, 1) := by decide +kernel
theorem dX3_addFree_1 : decode cX3_addFree 1 = .ok (.getfield 33, 3) := by decide +kernel
theorem dX3_addFree_4 : decode cX3_addFree 4 = .ok (.ifCond .lt 32, 3) := by decide +kernel
theorem dX3_addFree_7 : decode cX3_addFree 7 = .ok (.aload_n 0, 1) := by decide +kernel
theorem dX3_addFree_8 : decode cX3_addFree 8 = .ok (.getfield 33, 3) := by decide +kernel
theorem dX3_addFree_11 : decode cX3_addFree 11 = .ok (.bipush 8, 2) := by decide +kernel
theorem dX3_addFree_13 : decode cX3_addFree 13 = .ok (.if_icmp .ge 23, 3) := by decide +kernel
theorem dX3_addFree_16 : decode cX3_addFree 16 = .ok (.aload_n 0, 1) := by decide +kernel
theorem dX3_addFree_17 : decode cX3_addFree 17 = .ok (.getfield 18, 3) := by decide +kernel
theorem dX3_addFree_20 : decode cX3_addFree 20 = .ok (.aload_n 0, 1) := by decide +kernel
theorem dX3_addFree_21 : decode cX3_addFree 21 = .ok (.getfield 33, 3) := by decide +kernel
theorem dX3_addFree_24 : decode cX3_addFree 24 = .ok (.iload_n 1, 1) := by decide +kernel
theorem dX3_addFree_25 : decode cX3_addFree 25 = .ok (.iastore, 1) := by decide +kernel
theorem dX3_addFree_26 : decode cX3_addFree 26 = .ok (.aload_n 0, 1) := by decide +kernel
theorem dX3_addFree_27 : decode cX3_addFree 27 = .ok (.dup, 1) := by decide +kernel
theorem dX3_addFree_28 : decode cX3_addFree 28 = .ok (.getfield 33, 3) := by decide +kernel
theorem dX3_addFree_31 : decode cX3_addFree 31 = .ok (.iconst 1, 1) := by decide +kernel
theorem dX3_addFree_32 : decode cX3_addFree 32 = .ok (.iadd, 1) := by decide +kernel
theorem dX3_addFree_33 : decode cX3_addFree 33 = .ok (.putfield 33, 3) := by decide +kernel
theorem dX3_addFree_36 : decode cX3_addFree 36 = .ok (.return_, 1) := by decide +kernel
theorem dX3_addClosed_0 : decode cX3_addClosed 0 = .ok (.aload_n 0, 1) := by decide +kernel
theorem dX3_addClosed_1 : decode cX3_addClosed 1 = .ok (.getfield 36, 3) := by decide +kernel
theorem dX3_addClosed_4 : decode cX3_addClosed 4 = .ok (.ifCond .lt 32, 3) := by decide +kernel
theorem dX3_addClosed_7 : decode cX3_addClosed 7 = .ok (.aload_n 0, 1) := by decide +kernel
theorem dX3_addClosed_8 : decode cX3_addClosed 8 = .ok (.getfield 36, 3) := by decide +kernel
theorem dX3_addClosed_11 : decode cX3_addClosed 11 = .ok (.bipush 8, 2) := by decide +kernel
theorem dX3_addClosed_13 : decode cX3_addClosed 13 = .ok (.if_icmp .ge 23, 3) := by decide +kernel
theorem dX3_addClosed_16 : decode cX3_addClosed 16 = .ok (.aload_n 0, 1) := by decide +kernel
theorem dX3_addClosed_17 : decode cX3_addClosed 17 = .ok (.getfield 22, 3) := by decide +kernel
theorem dX3_addClosed_20 : decode cX3_addClosed 20 = .ok (.aload_n 0, 1) := by decide +kernel
theorem dX3_addClosed_21 : decode cX3_addClosed 21 = .ok (.getfield 36, 3) := by decide +kernel
theorem dX3_addClosed_24 : decode cX3_addClosed 24 = .ok (.iload_n 1, 1) := by decide +kernel
theorem dX3_addClosed_25 : decode cX3_addClosed 25 = .ok (.iastore, 1) := by decide +kernel
theorem dX3_addClosed_26 : decode cX3_addClosed 26 = .ok (.aload_n 0, 1) := by decide +kernel
theorem dX3_addClosed_27 : decode cX3_addClosed 27 = .ok (.dup, 1) := by decide +kernel
theorem dX3_addClosed_28 : decode cX3_addClosed 28 = .ok (.getfield 36, 3) := by decide +kernel
theorem dX3_addClosed_31 : decode cX3_addClosed 31 = .ok (.iconst 1, 1) := by decide +kernel
theorem dX3_addClosed_32 : decode cX3_addClosed 32 = .ok (.iadd, 1) := by decide +kernel
theorem dX3_addClosed_33 : decode cX3_addClosed 33 = .ok (.putfield 36, 3) := by decide +kernel
theorem dX3_addClosed_36 : decode cX3_addClosed 36 = .ok (.return_, 1) := by decide +kernel
theorem dX3_takeFree_0 : decode cX3_takeFree 0 = .ok (.aload_n 0, 1) := by decide +kernel
theorem dX3_takeFree_1 : decode cX3_takeFree 1 = .ok (.getfield 33, 3) := by decide +kernel
theorem dX3_takeFree_4 : decode cX3_takeFree 4 = .ok (.ifCond .gt 5, 3) := by decide +kernel
theorem dX3_takeFree_7 : decode cX3_takeFree 7 = .ok (.iconst (-1), 1) := by decide +kernel
theorem dX3_takeFree_8 : decode cX3_takeFree 8 = .ok (.ireturn, 1) := by decide +kernel
theorem dX3_takeFree_9 : decode cX3_takeFree 9 = .ok (.aload_n 0, 1) := by decide +kernel
theorem dX3_takeFree_10 : decode cX3_takeFree 10 = .ok (.getfield 18, 3) := by decide +kernel
theorem dX3_takeFree_13 : decode cX3_takeFree 13 = .ok (.iconst 0, 1) := by decide +kernel
theorem dX3_takeFree_14 : decode cX3_takeFree 14 = .ok (.iaload, 1) := by decide +kernel
theorem dX3_takeFree_15 : decode cX3_takeFree 15 = .ok (.istore_n 1, 1) := by decide +kernel
theorem dX3_takeFree_16 : decode cX3_takeFree 16 = .ok (.aload_n 0, 1) := by decide +kernel
theorem dX3_takeFree_17 : decode cX3_takeFree 17 = .ok (.dup, 1) := by decide +kernel
theorem dX3_takeFree_18 : decode cX3_takeFree 18 = .ok (.getfield 33, 3) := by decide +kernel
theorem dX3_takeFree_21 : decode cX3_takeFree 21 = .ok (.iconst 1, 1) := by decide +kernel
theorem dX3_takeFree_22 : decode cX3_takeFree 22 = .ok (.isub, 1) := by decide +kernel
theorem dX3_takeFree_23 : decode cX3_takeFree 23 = .ok (.putfield 33, 3) := by decide +kernel
theorem dX3_takeFree_26 : decode cX3_takeFree 26 = .ok (.iconst 0, 1) := by decide +kernel
theorem dX3_takeFree_27 : decode cX3_takeFree 27 = .ok (.istore_n 2, 1) := by decide +kernel
theorem dX3_takeFree_28 : decode cX3_takeFree 28 = .ok (.iload_n 2, 1) := by decide +kernel
theorem dX3_takeFree_29 : decode cX3_takeFree 29 = .ok (.aload_n 0, 1) := by decide +kernel
theorem dX3_takeFree_30 : decode cX3_takeFree 30 = .ok (.getfield 33, 3) := by decide +kernel
theorem dX3_takeFree_33 : decode cX3_takeFree 33 = .ok (.if_icmp .ge 31, 3) := by decide +kernel
theorem dX3_takeFree_36 : decode cX3_takeFree 36 = .ok (.iload_n 2, 1) := by decide +kernel
theorem dX3_takeFree_37 : decode cX3_takeFree 37 = .ok (.iconst 1, 1) := by decide +kernel
theorem dX3_takeFree_38 : decode cX3_takeFree 38 = .ok (.iadd, 1) := by decide +kernel
theorem dX3_takeFree_39 : decode cX3_takeFree 39 = .ok (.bipush 8, 2) := by decide +kernel
theorem dX3_takeFree_41 : decode cX3_takeFree 41 = .ok (.if_icmp .ge 23, 3) := by decide +kernel
theorem dX3_takeFree_44 : decode cX3_takeFree 44 = .ok (.aload_n 0, 1) := by decide +kernel
theorem dX3_takeFree_45 : decode cX3_takeFree 45 = .ok (.getfield 18, 3) := by decide +kernel
theorem dX3_takeFree_48 : decode cX3_takeFree 48 = .ok (.iload_n 2, 1) := by decide +kernel
theorem dX3_takeFree_49 : decode cX3_takeFree 49 = .ok (.aload_n 0, 1) := by decide +kernel
theorem dX3_takeFree_50 : decode cX3_takeFree 50 = .ok (.getfield 18, 3) := by decide +kernel
theorem dX3_takeFree_53 : decode cX3_takeFree 53 = .ok (.iload_n 2, 1) := by decide +kernel
theorem dX3_takeFree_54 : decode cX3_takeFree 54 = .ok (.iconst 1, 1) := by decide +kernel
theorem dX3_takeFree_55 : decode cX3_takeFree 55 = .ok (.iadd, 1) := by decide +kernel
theorem dX3_takeFree_56 : decode cX3_takeFree 56 = .ok (.iaload, 1) := by decide +kernel
theorem dX3_takeFree_57 : decode cX3_takeFree 57 = .ok (.iastore, 1) := by decide +kernel
theorem dX3_takeFree_58 : decode cX3_takeFree 58 = .ok (.iinc 2 1, 3) := by decide +kernel
theorem dX3_takeFree_61 : decode cX3_takeFree 61 = .ok (.goto (-33), 3) := by decide +kernel
theorem dX3_takeFree_64 : decode cX3_takeFree 64 = .ok (.iload_n 1, 1) := by decide +kernel
theorem dX3_takeFree_65 : decode cX3_takeFree 65 = .ok (.ireturn, 1) := by decide +kernel
theorem dX3_dropClosed_0 : decode cX3_dropClosed 0 = .ok (.iconst 0, 1) := by decide +kernel
theorem dX3_dropClosed_1 : decode cX3_dropClosed 1 = .ok (.istore_n 2, 1) := by decide +kernel
theorem dX3_dropClosed_2 : decode cX3_dropClosed 2 = .ok (.iconst 0, 1) := by decide +kernel
theorem dX3_dropClosed_3 : decode cX3_dropClosed 3 = .ok (.istore_n 3, 1) := by decide +kernel
theorem dX3_dropClosed_4 : decode cX3_dropClosed 4 = .ok (.iload_n 3, 1) := by decide +kernel
theorem dX3_dropClosed_5 : decode cX3_dropClosed 5 = .ok (.aload_n 0, 1) := by decide +kernel
theorem dX3_dropClosed_6 : decode cX3_dropClosed 6 = .ok (.getfield 36, 3) := by decide +kernel
theorem dX3_dropClosed_9 : decode cX3_dropClosed 9 = .ok (.if_icmp .ge 40, 3) := by decide +kernel
theorem dX3_dropClosed_12 : decode cX3_dropClosed 12 = .ok (.iload_n 3, 1) := by decide +kernel
theorem dX3_dropClosed_13 : decode cX3_dropClosed 13 = .ok (.bipush 8, 2) := by decide +kernel
theorem dX3_dropClosed_15 : decode cX3_dropClosed 15 = .ok (.if_icmp .ge 34, 3) := by decide +kernel
theorem dX3_dropClosed_18 : decode cX3_dropClosed 18 = .ok (.aload_n 0, 1) := by decide +kernel
theorem dX3_dropClosed_19 : decode cX3_dropClosed 19 = .ok (.getfield 22, 3) := by decide +kernel
theorem dX3_dropClosed_22 : decode cX3_dropClosed 22 = .ok (.iload_n 3, 1) := by decide +kernel
theorem dX3_dropClosed_23 : decode cX3_dropClosed 23 = .ok (.iaload, 1) := by decide +kernel
theorem dX3_dropClosed_24 : decode cX3_dropClosed 24 = .ok (.iload_n 1, 1) := by decide +kernel
theorem dX3_dropClosed_25 : decode cX3_dropClosed 25 = .ok (.if_icmp .eq 18, 3) := by decide +kernel
theorem dX3_dropClosed_28 : decode cX3_dropClosed 28 = .ok (.aload_n 0, 1) := by decide +kernel
theorem dX3_dropClosed_29 : decode cX3_dropClosed 29 = .ok (.getfield 22, 3) := by decide +kernel
theorem dX3_dropClosed_32 : decode cX3_dropClosed 32 = .ok (.iload_n 2, 1) := by decide +kernel
theorem dX3_dropClosed_33 : decode cX3_dropClosed 33 = .ok (.aload_n 0, 1) := by decide +kernel
theorem dX3_dropClosed_34 : decode cX3_dropClosed 34 = .ok (.getfield 22, 3) := by decide +kernel
theorem dX3_dropClosed_37 : decode cX3_dropClosed 37 = .ok (.iload_n 3, 1) := by decide +kernel
theorem dX3_dropClosed_38 : decode cX3_dropClosed 38 = .ok (.iaload, 1) := by decide +kernel
theorem dX3_dropClosed_39 : decode cX3_dropClosed 39 = .ok (.iastore, 1) := by decide +kernel
theorem dX3_dropClosed_40 : decode cX3_dropClosed 40 = .ok (.iinc 2 1, 3) := by decide +kernel
theorem dX3_dropClosed_43 : decode cX3_dropClosed 43 = .ok (.iinc 3 1, 3) := by decide +kernel
theorem dX3_dropClosed_46 : decode cX3_dropClosed 46 = .ok (.goto (-42), 3) := by decide +kernel
theorem dX3_dropClosed_49 : decode cX3_dropClosed 49 = .ok (.aload_n 0, 1) := by decide +kernel
theorem dX3_dropClosed_50 : decode cX3_dropClosed 50 = .ok (.iload_n 2, 1) := by decide +kernel
theorem dX3_dropClosed_51 : decode cX3_dropClosed 51 = .ok (.putfield 36, 3) := by decide +kernel
theorem dX3_dropClosed_54 : decode cX3_dropClosed 54 = .ok (.return_, 1) := by decide +kernel
theorem dX3_fits_0 : decode cX3_fits 0 = .ok (.iload_n 1, 1) := by decide +kernel
theorem dX3_fits_1 : decode cX3_fits 1 = .ok (.iload_n 3, 1) := by decide +kernel
theorem dX3_fits_2 : decode cX3_fits 2 = .ok (.iadd, 1) := by decide +kernel
theorem dX3_fits_3 : decode cX3_fits 3 = .ok (.iconst 1, 1) := by decide +kernel
theorem dX3_fits_4 : decode cX3_fits 4 = .ok (.iadd, 1) := by decide +kernel
theorem dX3_fits_5 : decode cX3_fits 5 = .ok (.iload_n 2, 1) := by decide +kernel
theorem dX3_fits_6 : decode cX3_fits 6 = .ok (.iadd, 1) := by decide +kernel
theorem dX3_fits_7 : decode cX3_fits 7 = .ok (.iconst 1, 1) := by decide +kernel
theorem dX3_fits_8 : decode cX3_fits 8 = .ok (.iadd, 1) := by decide +kernel
theorem dX3_fits_9 : decode cX3_fits 9 = .ok (.bipush 40, 2) := by decide +kernel
theorem dX3_fits_11 : decode cX3_fits 11 = .ok (.if_icmp .gt 7, 3) := by decide +kernel
theorem dX3_fits_14 : decode cX3_fits 14 = .ok (.iconst 1, 1) := by decide +kernel
theorem dX3_fits_15 : decode cX3_fits 15 = .ok (.goto 4, 3) := by decide +kernel
theorem dX3_fits_18 : decode cX3_fits 18 = .ok (.iconst 0, 1) := by decide +kernel
theorem dX3_fits_19 : decode cX3_fits 19 = .ok (.ireturn, 1) := by decide +kernel
theorem dX3_beginTrial_0 : decode cX3_beginTrial 0 = .ok (.aload_n 0, 1) := by decide +kernel
theorem dX3_beginTrial_1 : decode cX3_beginTrial 1 = .ok (.aload_n 0, 1) := by decide +kernel
theorem dX3_beginTrial_2 : decode cX3_beginTrial 2 = .ok (.getfield 25, 3) := by decide +kernel
theorem dX3_beginTrial_5 : decode cX3_beginTrial 5 = .ok (.iconst (-1), 1) := by decide +kernel
theorem dX3_beginTrial_6 : decode cX3_beginTrial 6 = .ok (.if_icmp .ne 8, 3) := by decide +kernel
theorem dX3_beginTrial_9 : decode cX3_beginTrial 9 = .ok (.bipush 40, 2) := by decide +kernel
theorem dX3_beginTrial_11 : decode cX3_beginTrial 11 = .ok (.goto 14, 3) := by decide +kernel
theorem dX3_beginTrial_14 : decode cX3_beginTrial 14 = .ok (.aload_n 0, 1) := by decide +kernel
theorem dX3_beginTrial_15 : decode cX3_beginTrial 15 = .ok (.getfield 29, 3) := by decide +kernel
theorem dX3_beginTrial_18 : decode cX3_beginTrial 18 = .ok (.aload_n 0, 1) := by decide +kernel
theorem dX3_beginTrial_19 : decode cX3_beginTrial 19 = .ok (.getfield 25, 3) := by decide +kernel
theorem dX3_beginTrial_22 : decode cX3_beginTrial 22 = .ok (.invokevirtual 39, 3) := by decide +kernel
theorem dX3_beginTrial_25 : decode cX3_beginTrial 25 = .ok (.putfield 45, 3) := by decide +kernel
theorem dX3_beginTrial_28 : decode cX3_beginTrial 28 = .ok (.aload_n 0, 1) := by decide +kernel
theorem dX3_beginTrial_29 : decode cX3_beginTrial 29 = .ok (.aload_n 0, 1) := by decide +kernel
theorem dX3_beginTrial_30 : decode cX3_beginTrial 30 = .ok (.getfield 29, 3) := by decide +kernel
theorem dX3_beginTrial_33 : decode cX3_beginTrial 33 = .ok (.aload_n 0, 1) := by decide +kernel
theorem dX3_beginTrial_34 : decode cX3_beginTrial 34 = .ok (.getfield 25, 3) := by decide +kernel
theorem dX3_beginTrial_37 : decode cX3_beginTrial 37 = .ok (.invokevirtual 48, 3) := by decide +kernel
theorem dX3_beginTrial_40 : decode cX3_beginTrial 40 = .ok (.putfield 51, 3) := by decide +kernel
theorem dX3_beginTrial_43 : decode cX3_beginTrial 43 = .ok (.aload_n 0, 1) := by decide +kernel
theorem dX3_beginTrial_44 : decode cX3_beginTrial 44 = .ok (.iload_n 1, 1) := by decide +kernel
theorem dX3_beginTrial_45 : decode cX3_beginTrial 45 = .ok (.putfield 54, 3) := by decide +kernel
theorem dX3_beginTrial_48 : decode cX3_beginTrial 48 = .ok (.return_, 1) := by decide +kernel
theorem dX3_takesInTrial_0 : decode cX3_takesInTrial 0 = .ok (.aload_n 0, 1) := by decide +kernel
theorem dX3_takesInTrial_1 : decode cX3_takesInTrial 1 = .ok (.aload_n 0, 1) := by decide +kernel
theorem dX3_takesInTrial_2 : decode cX3_takesInTrial 2 = .ok (.getfield 45, 3) := by decide +kernel
theorem dX3_takesInTrial_5 : decode cX3_takesInTrial 5 = .ok (.aload_n 0, 1) := by decide +kernel
theorem dX3_takesInTrial_6 : decode cX3_takesInTrial 6 = .ok (.getfield 51, 3) := by decide +kernel
theorem dX3_takesInTrial_9 : decode cX3_takesInTrial 9 = .ok (.iload_n 1, 1) := by decide +kernel
theorem dX3_takesInTrial_10 : decode cX3_takesInTrial 10 = .ok (.invokevirtual 57, 3) := by decide +kernel
theorem dX3_takesInTrial_13 : decode cX3_takesInTrial 13 = .ok (.ifCond .ne 32, 3) := by decide +kernel
theorem dX3_takesInTrial_16 : decode cX3_takesInTrial 16 = .ok (.aload_n 0, 1) := by decide +kernel
theorem dX3_takesInTrial_17 : decode cX3_takesInTrial 17 = .ok (.getfield 54, 3) := by decide +kernel
theorem dX3_takesInTrial_20 : decode cX3_takesInTrial 20 = .ok (.ifCond .gt 5, 3) := by decide +kernel
theorem dX3_takesInTrial_23 : decode cX3_takesInTrial 23 = .ok (.iconst 0, 1) := by decide +kernel
theorem dX3_takesInTrial_24 : decode cX3_takesInTrial 24 = .ok (.ireturn, 1) := by decide +kernel
theorem dX3_takesInTrial_25 : decode cX3_takesInTrial 25 = .ok (.aload_n 0, 1) := by decide +kernel
theorem dX3_takesInTrial_26 : decode cX3_takesInTrial 26 = .ok (.dup, 1) := by decide +kernel
theorem dX3_takesInTrial_27 : decode cX3_takesInTrial 27 = .ok (.getfield 54, 3) := by decide +kernel
theorem dX3_takesInTrial_30 : decode cX3_takesInTrial 30 = .ok (.iconst 1, 1) := by decide +kernel
theorem dX3_takesInTrial_31 : decode cX3_takesInTrial 31 = .ok (.isub, 1) := by decide +kernel
theorem dX3_takesInTrial_32 : decode cX3_takesInTrial 32 = .ok (.putfield 54, 3) := by decide +kernel
theorem dX3_takesInTrial_35 : decode cX3_takesInTrial 35 = .ok (.aload_n 0, 1) := by decide +kernel
theorem dX3_takesInTrial_36 : decode cX3_takesInTrial 36 = .ok (.iconst 1, 1) := by decide +kernel
theorem dX3_takesInTrial_37 : decode cX3_takesInTrial 37 = .ok (.putfield 45, 3) := by decide +kernel
theorem dX3_takesInTrial_40 : decode cX3_takesInTrial 40 = .ok (.aload_n 0, 1) := by decide +kernel
theorem dX3_takesInTrial_41 : decode cX3_takesInTrial 41 = .ok (.iconst 0, 1) := by decide +kernel
theorem dX3_takesInTrial_42 : decode cX3_takesInTrial 42 = .ok (.putfield 51, 3) := by decide +kernel
theorem dX3_takesInTrial_45 : decode cX3_takesInTrial 45 = .ok (.aload_n 0, 1) := by decide +kernel
theorem dX3_takesInTrial_46 : decode cX3_takesInTrial 46 = .ok (.dup, 1) := by decide +kernel
theorem dX3_takesInTrial_47 : decode cX3_takesInTrial 47 = .ok (.getfield 45, 3) := by decide +kernel
theorem dX3_takesInTrial_50 : decode cX3_takesInTrial 50 = .ok (.iload_n 1, 1) := by decide +kernel
theorem dX3_takesInTrial_51 : decode cX3_takesInTrial 51 = .ok (.iadd, 1) := by decide +kernel
theorem dX3_takesInTrial_52 : decode cX3_takesInTrial 52 = .ok (.putfield 45, 3) := by decide +kernel
theorem dX3_takesInTrial_55 : decode cX3_takesInTrial 55 = .ok (.aload_n 0, 1) := by decide +kernel
theorem dX3_takesInTrial_56 : decode cX3_takesInTrial 56 = .ok (.dup, 1) := by decide +kernel
theorem dX3_takesInTrial_57 : decode cX3_takesInTrial 57 = .ok (.getfield 51, 3) := by decide +kernel
theorem dX3_takesInTrial_60 : decode cX3_takesInTrial 60 = .ok (.iconst 1, 1) := by decide +kernel
theorem dX3_takesInTrial_61 : decode cX3_takesInTrial 61 = .ok (.iadd, 1) := by decide +kernel
theorem dX3_takesInTrial_62 : decode cX3_takesInTrial 62 = .ok (.putfield 51, 3) := by decide +kernel
theorem dX3_takesInTrial_65 : decode cX3_takesInTrial 65 = .ok (.iconst 1, 1) := by decide +kernel
theorem dX3_takesInTrial_66 : decode cX3_takesInTrial 66 = .ok (.ireturn, 1) := by decide +kernel
theorem dX3_put_0 : decode cX3_put 0 = .ok (.aload_n 0, 1) := by decide +kernel
theorem dX3_put_1 : decode cX3_put 1 = .ok (.getfield 25, 3) := by decide +kernel
theorem dX3_put_4 : decode cX3_put 4 = .ok (.iconst (-1), 1) := by decide +kernel
theorem dX3_put_5 : decode cX3_put 5 = .ok (.if_icmp .eq 40, 3) := by decide +kernel
theorem dX3_put_8 : decode cX3_put 8 = .ok (.aload_n 0, 1) := by decide +kernel
theorem dX3_put_9 : decode cX3_put 9 = .ok (.aload_n 0, 1) := by decide +kernel
theorem dX3_put_10 : decode cX3_put 10 = .ok (.getfield 29, 3) := by decide +kernel
theorem dX3_put_13 : decode cX3_put 13 = .ok (.aload_n 0, 1) := by decide +kernel
theorem dX3_put_14 : decode cX3_put 14 = .ok (.getfield 25, 3) := by decide +kernel
theorem dX3_put_17 : decode cX3_put 17 = .ok (.invokevirtual 39, 3) := by decide +kernel
theorem dX3_put_20 : decode cX3_put 20 = .ok (.aload_n 0, 1) := by decide +kernel
theorem dX3_put_21 : decode cX3_put 21 = .ok (.getfield 29, 3) := by decide +kernel
theorem dX3_put_24 : decode cX3_put 24 = .ok (.aload_n 0, 1) := by decide +kernel
theorem dX3_put_25 : decode cX3_put 25 = .ok (.getfield 25, 3) := by decide +kernel
theorem dX3_put_28 : decode cX3_put 28 = .ok (.invokevirtual 48, 3) := by decide +kernel
theorem dX3_put_31 : decode cX3_put 31 = .ok (.aload_n 1, 1) := by decide +kernel
theorem dX3_put_32 : decode cX3_put 32 = .ok (.getfield 61, 3) := by decide +kernel
theorem dX3_put_35 : decode cX3_put 35 = .ok (.invokevirtual 57, 3) := by decide +kernel
theorem dX3_put_38 : decode cX3_put 38 = .ok (.ifCond .eq 7, 3) := by decide +kernel
theorem dX3_put_41 : decode cX3_put 41 = .ok (.iconst 1, 1) := by decide +kernel
theorem dX3_put_42 : decode cX3_put 42 = .ok (.goto 4, 3) := by decide +kernel
theorem dX3_put_45 : decode cX3_put 45 = .ok (.iconst 0, 1) := by decide +kernel
theorem dX3_put_46 : decode cX3_put 46 = .ok (.istore_n 2, 1) := by decide +kernel
theorem dX3_put_47 : decode cX3_put 47 = .ok (.iload_n 2, 1) := by decide +kernel
theorem dX3_put_48 : decode cX3_put 48 = .ok (.ifCond .ne 10, 3) := by decide +kernel
theorem dX3_put_51 : decode cX3_put 51 = .ok (.aload_n 0, 1) := by decide +kernel
theorem dX3_put_52 : decode cX3_put 52 = .ok (.invokevirtual 64, 3) := by decide +kernel
theorem dX3_put_55 : decode cX3_put 55 = .ok (.ifCond .eq 22, 3) := by decide +kernel
theorem dX3_put_58 : decode cX3_put 58 = .ok (.aload_n 0, 1) := by decide +kernel
theorem dX3_put_59 : decode cX3_put 59 = .ok (.getfield 29, 3) := by decide +kernel
theorem dX3_put_62 : decode cX3_put 62 = .ok (.aload_n 0, 1) := by decide +kernel
theorem dX3_put_63 : decode cX3_put 63 = .ok (.getfield 25, 3) := by decide +kernel
theorem dX3_put_66 : decode cX3_put 66 = .ok (.aload_n 1, 1) := by decide +kernel
theorem dX3_put_67 : decode cX3_put 67 = .ok (.invokevirtual 68, 3) := by decide +kernel
theorem dX3_put_70 : decode cX3_put 70 = .ok (.ifCond .eq 7, 3) := by decide +kernel
theorem dX3_put_73 : decode cX3_put 73 = .ok (.iconst 1, 1) := by decide +kernel
theorem dX3_put_74 : decode cX3_put 74 = .ok (.goto 4, 3) := by decide +kernel
theorem dX3_put_77 : decode cX3_put 77 = .ok (.iconst 0, 1) := by decide +kernel
theorem dX3_put_78 : decode cX3_put 78 = .ok (.ireturn, 1) := by decide +kernel
theorem dX3_goOn_0 : decode cX3_goOn 0 = .ok (.aload_n 0, 1) := by decide +kernel
theorem dX3_goOn_1 : decode cX3_goOn 1 = .ok (.getfield 25, 3) := by decide +kernel
theorem dX3_goOn_4 : decode cX3_goOn 4 = .ok (.iconst (-1), 1) := by decide +kernel
theorem dX3_goOn_5 : decode cX3_goOn 5 = .ok (.if_icmp .eq 49, 3) := by decide +kernel
theorem dX3_goOn_8 : decode cX3_goOn 8 = .ok (.aload_n 0, 1) := by decide +kernel
theorem dX3_goOn_9 : decode cX3_goOn 9 = .ok (.getfield 12, 3) := by decide +kernel
theorem dX3_goOn_12 : decode cX3_goOn 12 = .ok (.aload_n 0, 1) := by decide +kernel
theorem dX3_goOn_13 : decode cX3_goOn 13 = .ok (.getfield 29, 3) := by decide +kernel
theorem dX3_goOn_16 : decode cX3_goOn 16 = .ok (.aload_n 0, 1) := by decide +kernel
theorem dX3_goOn_17 : decode cX3_goOn 17 = .ok (.getfield 25, 3) := by decide +kernel
theorem dX3_goOn_20 : decode cX3_goOn 20 = .ok (.invokevirtual 48, 3) := by decide +kernel
theorem dX3_goOn_23 : decode cX3_goOn 23 = .ok (.invokevirtual 72, 3) := by decide +kernel
theorem dX3_goOn_26 : decode cX3_goOn 26 = .ok (.aload_n 0, 1) := by decide +kernel
theorem dX3_goOn_27 : decode cX3_goOn 27 = .ok (.getfield 29, 3) := by decide +kernel
theorem dX3_goOn_30 : decode cX3_goOn 30 = .ok (.aload_n 0, 1) := by decide +kernel
theorem dX3_goOn_31 : decode cX3_goOn 31 = .ok (.getfield 25, 3) := by decide +kernel
theorem dX3_goOn_34 : decode cX3_goOn 34 = .ok (.aload_n 0, 1) := by decide +kernel
theorem dX3_goOn_35 : decode cX3_goOn 35 = .ok (.getfield 12, 3) := by decide +kernel
theorem dX3_goOn_38 : decode cX3_goOn 38 = .ok (.invokevirtual 68, 3) := by decide +kernel
theorem dX3_goOn_41 : decode cX3_goOn 41 = .ok (.ifCond .ne 5, 3) := by decide +kernel
theorem dX3_goOn_44 : decode cX3_goOn 44 = .ok (.iconst 0, 1) := by decide +kernel
theorem dX3_goOn_45 : decode cX3_goOn 45 = .ok (.ireturn, 1) := by decide +kernel
theorem dX3_goOn_46 : decode cX3_goOn 46 = .ok (.aload_n 0, 1) := by decide +kernel
theorem dX3_goOn_47 : decode cX3_goOn 47 = .ok (.aload_n 0, 1) := by decide +kernel
theorem dX3_goOn_48 : decode cX3_goOn 48 = .ok (.getfield 25, 3) := by decide +kernel
theorem dX3_goOn_51 : decode cX3_goOn 51 = .ok (.invokevirtual 76, 3) := by decide +kernel
theorem dX3_goOn_54 : decode cX3_goOn 54 = .ok (.aload_n 0, 1) := by decide +kernel
theorem dX3_goOn_55 : decode cX3_goOn 55 = .ok (.aload_n 0, 1) := by decide +kernel
theorem dX3_goOn_56 : decode cX3_goOn 56 = .ok (.invokevirtual 79, 3) := by decide +kernel
theorem dX3_goOn_59 : decode cX3_goOn 59 = .ok (.putfield 25, 3) := by decide +kernel
theorem dX3_goOn_62 : decode cX3_goOn 62 = .ok (.aload_n 0, 1) := by decide +kernel
theorem dX3_goOn_63 : decode cX3_goOn 63 = .ok (.getfield 25, 3) := by decide +kernel
theorem dX3_goOn_66 : decode cX3_goOn 66 = .ok (.iconst (-1), 1) := by decide +kernel
theorem dX3_goOn_67 : decode cX3_goOn 67 = .ok (.if_icmp .eq 7, 3) := by decide +kernel
theorem dX3_goOn_70 : decode cX3_goOn 70 = .ok (.iconst 1, 1) := by decide +kernel
theorem dX3_goOn_71 : decode cX3_goOn 71 = .ok (.goto 4, 3) := by decide +kernel
theorem dX3_goOn_74 : decode cX3_goOn 74 = .ok (.iconst 0, 1) := by decide +kernel
theorem dX3_goOn_75 : decode cX3_goOn 75 = .ok (.ireturn, 1) := by decide +kernel
theorem dX3_freeClosed_0 : decode cX3_freeClosed 0 = .ok (.aload_n 0, 1) := by decide +kernel
theorem dX3_freeClosed_1 : decode cX3_freeClosed 1 = .ok (.getfield 29, 3) := by decide +kernel
theorem dX3_freeClosed_4 : decode cX3_freeClosed 4 = .ok (.iload_n 1, 1) := by decide +kernel
theorem dX3_freeClosed_5 : decode cX3_freeClosed 5 = .ok (.invokevirtual 83, 3) := by decide +kernel
theorem dX3_freeClosed_8 : decode cX3_freeClosed 8 = .ok (.ifCond .ne 5, 3) := by decide +kernel
theorem dX3_freeClosed_11 : decode cX3_freeClosed 11 = .ok (.iconst 0, 1) := by decide +kernel
theorem dX3_freeClosed_12 : decode cX3_freeClosed 12 = .ok (.ireturn, 1) := by decide +kernel
theorem dX3_freeClosed_13 : decode cX3_freeClosed 13 = .ok (.aload_n 0, 1) := by decide +kernel
theorem dX3_freeClosed_14 : decode cX3_freeClosed 14 = .ok (.iload_n 1, 1) := by decide +kernel
theorem dX3_freeClosed_15 : decode cX3_freeClosed 15 = .ok (.invokevirtual 87, 3) := by decide +kernel
theorem dX3_freeClosed_18 : decode cX3_freeClosed 18 = .ok (.aload_n 0, 1) := by decide +kernel
theorem dX3_freeClosed_19 : decode cX3_freeClosed 19 = .ok (.iload_n 1, 1) := by decide +kernel
theorem dX3_freeClosed_20 : decode cX3_freeClosed 20 = .ok (.invokevirtual 90, 3) := by decide +kernel
theorem dX3_freeClosed_23 : decode cX3_freeClosed 23 = .ok (.iconst 1, 1) := by decide +kernel
theorem dX3_freeClosed_24 : decode cX3_freeClosed 24 = .ok (.ireturn, 1) := by decide +kernel
theorem dX3_restart_0 : decode cX3_restart 0 = .ok (.aload_n 0, 1) := by decide +kernel
theorem dX3_restart_1 : decode cX3_restart 1 = .ok (.iconst (-1), 1) := by decide +kernel
theorem dX3_restart_2 : decode cX3_restart 2 = .ok (.putfield 25, 3) := by decide +kernel
theorem dX3_restart_5 : decode cX3_restart 5 = .ok (.aload_n 0, 1) := by decide +kernel
theorem dX3_restart_6 : decode cX3_restart 6 = .ok (.iconst 0, 1) := by decide +kernel
theorem dX3_restart_7 : decode cX3_restart 7 = .ok (.putfield 33, 3) := by decide +kernel
theorem dX3_restart_10 : decode cX3_restart 10 = .ok (.aload_n 0, 1) := by decide +kernel
theorem dX3_restart_11 : decode cX3_restart 11 = .ok (.iconst 0, 1) := by decide +kernel
theorem dX3_restart_12 : decode cX3_restart 12 = .ok (.putfield 36, 3) := by decide +kernel
theorem dX3_restart_15 : decode cX3_restart 15 = .ok (.iconst 0, 1) := by decide +kernel
theorem dX3_restart_16 : decode cX3_restart 16 = .ok (.istore_n 1, 1) := by decide +kernel
theorem dX3_restart_17 : decode cX3_restart 17 = .ok (.iload_n 1, 1) := by decide +kernel
theorem dX3_restart_18 : decode cX3_restart 18 = .ok (.bipush 8, 2) := by decide +kernel
theorem dX3_restart_20 : decode cX3_restart 20 = .ok (.if_icmp .ge 62, 3) := by decide +kernel
theorem dX3_restart_23 : decode cX3_restart 23 = .ok (.aload_n 0, 1) := by decide +kernel
theorem dX3_restart_24 : decode cX3_restart 24 = .ok (.getfield 25, 3) := by decide +kernel
theorem dX3_restart_27 : decode cX3_restart 27 = .ok (.iconst (-1), 1) := by decide +kernel
theorem dX3_restart_28 : decode cX3_restart 28 = .ok (.if_icmp .eq 25, 3) := by decide +kernel
theorem dX3_restart_31 : decode cX3_restart 31 = .ok (.aload_n 0, 1) := by decide +kernel
theorem dX3_restart_32 : decode cX3_restart 32 = .ok (.getfield 29, 3) := by decide +kernel
theorem dX3_restart_35 : decode cX3_restart 35 = .ok (.iload_n 1, 1) := by decide +kernel
theorem dX3_restart_36 : decode cX3_restart 36 = .ok (.invokevirtual 39, 3) := by decide +kernel
theorem dX3_restart_39 : decode cX3_restart 39 = .ok (.aload_n 0, 1) := by decide +kernel
theorem dX3_restart_40 : decode cX3_restart 40 = .ok (.getfield 29, 3) := by decide +kernel
theorem dX3_restart_43 : decode cX3_restart 43 = .ok (.aload_n 0, 1) := by decide +kernel
theorem dX3_restart_44 : decode cX3_restart 44 = .ok (.getfield 25, 3) := by decide +kernel
theorem dX3_restart_47 : decode cX3_restart 47 = .ok (.invokevirtual 39, 3) := by decide +kernel
theorem dX3_restart_50 : decode cX3_restart 50 = .ok (.if_icmp .ge 7, 3) := by decide +kernel
theorem dX3_restart_53 : decode cX3_restart 53 = .ok (.iconst 1, 1) := by decide +kernel
theorem dX3_restart_54 : decode cX3_restart 54 = .ok (.goto 4, 3) := by decide +kernel
theorem dX3_restart_57 : decode cX3_restart 57 = .ok (.iconst 0, 1) := by decide +kernel
theorem dX3_restart_58 : decode cX3_restart 58 = .ok (.istore_n 2, 1) := by decide +kernel
theorem dX3_restart_59 : decode cX3_restart 59 = .ok (.iload_n 2, 1) := by decide +kernel
theorem dX3_restart_60 : decode cX3_restart 60 = .ok (.ifCond .eq 16, 3) := by decide +kernel
theorem dX3_restart_63 : decode cX3_restart 63 = .ok (.aload_n 0, 1) := by decide +kernel
theorem dX3_restart_64 : decode cX3_restart 64 = .ok (.iload_n 1, 1) := by decide +kernel
theorem dX3_restart_65 : decode cX3_restart 65 = .ok (.invokevirtual 93, 3) := by decide +kernel
theorem dX3_restart_68 : decode cX3_restart 68 = .ok (.ifCond .eq 8, 3) := by decide +kernel
theorem dX3_restart_71 : decode cX3_restart 71 = .ok (.aload_n 0, 1) := by decide +kernel
theorem dX3_restart_72 : decode cX3_restart 72 = .ok (.iload_n 1, 1) := by decide +kernel
theorem dX3_restart_73 : decode cX3_restart 73 = .ok (.putfield 25, 3) := by decide +kernel
theorem dX3_restart_76 : decode cX3_restart 76 = .ok (.iinc 1 1, 3) := by decide +kernel
theorem dX3_restart_79 : decode cX3_restart 79 = .ok (.goto (-62), 3) := by decide +kernel
theorem dX3_restart_82 : decode cX3_restart 82 = .ok (.iconst 0, 1) := by decide +kernel
theorem dX3_restart_83 : decode cX3_restart 83 = .ok (.istore_n 1, 1) := by decide +kernel
theorem dX3_restart_84 : decode cX3_restart 84 = .ok (.iload_n 1, 1) := by decide +kernel
theorem dX3_restart_85 : decode cX3_restart 85 = .ok (.bipush 8, 2) := by decide +kernel
theorem dX3_restart_87 : decode cX3_restart 87 = .ok (.if_icmp .ge 54, 3) := by decide +kernel
theorem dX3_restart_90 : decode cX3_restart 90 = .ok (.aload_n 0, 1) := by decide +kernel
theorem dX3_restart_91 : decode cX3_restart 91 = .ok (.getfield 29, 3) := by decide +kernel
theorem dX3_restart_94 : decode cX3_restart 94 = .ok (.iload_n 1, 1) := by decide +kernel
theorem dX3_restart_95 : decode cX3_restart 95 = .ok (.invokevirtual 39, 3) := by decide +kernel
theorem dX3_restart_98 : decode cX3_restart 98 = .ok (.iconst 1, 1) := by decide +kernel
theorem dX3_restart_99 : decode cX3_restart 99 = .ok (.if_icmp .ne 11, 3) := by decide +kernel
theorem dX3_restart_102 : decode cX3_restart 102 = .ok (.aload_n 0, 1) := by decide +kernel
theorem dX3_restart_103 : decode cX3_restart 103 = .ok (.iload_n 1, 1) := by decide +kernel
theorem dX3_restart_104 : decode cX3_restart 104 = .ok (.invokevirtual 90, 3) := by decide +kernel
theorem dX3_restart_107 : decode cX3_restart 107 = .ok (.goto 28, 3) := by decide +kernel
theorem dX3_restart_110 : decode cX3_restart 110 = .ok (.aload_n 0, 1) := by decide +kernel
theorem dX3_restart_111 : decode cX3_restart 111 = .ok (.getfield 29, 3) := by decide +kernel
theorem dX3_restart_114 : decode cX3_restart 114 = .ok (.iload_n 1, 1) := by decide +kernel
theorem dX3_restart_115 : decode cX3_restart 115 = .ok (.invokevirtual 39, 3) := by decide +kernel
theorem dX3_restart_118 : decode cX3_restart 118 = .ok (.iconst 1, 1) := by decide +kernel
theorem dX3_restart_119 : decode cX3_restart 119 = .ok (.if_icmp .le 16, 3) := by decide +kernel
theorem dX3_restart_122 : decode cX3_restart 122 = .ok (.iload_n 1, 1) := by decide +kernel
theorem dX3_restart_123 : decode cX3_restart 123 = .ok (.aload_n 0, 1) := by decide +kernel
theorem dX3_restart_124 : decode cX3_restart 124 = .ok (.getfield 25, 3) := by decide +kernel
theorem dX3_restart_127 : decode cX3_restart 127 = .ok (.if_icmp .eq 8, 3) := by decide +kernel
theorem dX3_restart_130 : decode cX3_restart 130 = .ok (.aload_n 0, 1) := by decide +kernel
theorem dX3_restart_131 : decode cX3_restart 131 = .ok (.iload_n 1, 1) := by decide +kernel
theorem dX3_restart_132 : decode cX3_restart 132 = .ok (.invokevirtual 76, 3) := by decide +kernel
theorem dX3_restart_135 : decode cX3_restart 135 = .ok (.iinc 1 1, 3) := by decide +kernel
theorem dX3_restart_138 : decode cX3_restart 138 = .ok (.goto (-54), 3) := by decide +kernel
theorem dX3_restart_141 : decode cX3_restart 141 = .ok (.return_, 1) := by decide +kernel
theorem dX3_canGoOn_0 : decode cX3_canGoOn 0 = .ok (.aload_n 0, 1) := by decide +kernel
theorem dX3_canGoOn_1 : decode cX3_canGoOn 1 = .ok (.getfield 29, 3) := by decide +kernel
theorem dX3_canGoOn_4 : decode cX3_canGoOn 4 = .ok (.iload_n 1, 1) := by decide +kernel
theorem dX3_canGoOn_5 : decode cX3_canGoOn 5 = .ok (.invokevirtual 48, 3) := by decide +kernel
theorem dX3_canGoOn_8 : decode cX3_canGoOn 8 = .ok (.istore_n 2, 1) := by decide +kernel
theorem dX3_canGoOn_9 : decode cX3_canGoOn 9 = .ok (.iconst 0, 1) := by decide +kernel
theorem dX3_canGoOn_10 : decode cX3_canGoOn 10 = .ok (.istore_n 3, 1) := by decide +kernel
theorem dX3_canGoOn_11 : decode cX3_canGoOn 11 = .ok (.iload_n 3, 1) := by decide +kernel
theorem dX3_canGoOn_12 : decode cX3_canGoOn 12 = .ok (.iload_n 2, 1) := by decide +kernel
theorem dX3_canGoOn_13 : decode cX3_canGoOn 13 = .ok (.if_icmp .ge 39, 3) := by decide +kernel
theorem dX3_canGoOn_16 : decode cX3_canGoOn 16 = .ok (.aload_n 0, 1) := by decide +kernel
theorem dX3_canGoOn_17 : decode cX3_canGoOn 17 = .ok (.getfield 29, 3) := by decide +kernel
theorem dX3_canGoOn_20 : decode cX3_canGoOn 20 = .ok (.iload_n 1, 1) := by decide +kernel
theorem dX3_canGoOn_21 : decode cX3_canGoOn 21 = .ok (.iload_n 3, 1) := by decide +kernel
theorem dX3_canGoOn_22 : decode cX3_canGoOn 22 = .ok (.invokevirtual 96, 3) := by decide +kernel
theorem dX3_canGoOn_25 : decode cX3_canGoOn 25 = .ok (.astore 4, 2) := by decide +kernel
theorem dX3_canGoOn_27 : decode cX3_canGoOn 27 = .ok (.aload 4, 2) := by decide +kernel
theorem dX3_canGoOn_29 : decode cX3_canGoOn 29 = .ok (.getfield 100, 3) := by decide +kernel
theorem dX3_canGoOn_32 : decode cX3_canGoOn 32 = .ok (.iconst 3, 1) := by decide +kernel
theorem dX3_canGoOn_33 : decode cX3_canGoOn 33 = .ok (.if_icmp .eq 11, 3) := by decide +kernel
theorem dX3_canGoOn_36 : decode cX3_canGoOn 36 = .ok (.aload 4, 2) := by decide +kernel
theorem dX3_canGoOn_38 : decode cX3_canGoOn 38 = .ok (.invokevirtual 103, 3) := by decide +kernel
theorem dX3_canGoOn_41 : decode cX3_canGoOn 41 = .ok (.ifCond .ne 5, 3) := by decide +kernel
theorem dX3_canGoOn_44 : decode cX3_canGoOn 44 = .ok (.iconst 0, 1) := by decide +kernel
theorem dX3_canGoOn_45 : decode cX3_canGoOn 45 = .ok (.ireturn, 1) := by decide +kernel
theorem dX3_canGoOn_46 : decode cX3_canGoOn 46 = .ok (.iinc 3 1, 3) := by decide +kernel
theorem dX3_canGoOn_49 : decode cX3_canGoOn 49 = .ok (.goto (-38), 3) := by decide +kernel
theorem dX3_canGoOn_52 : decode cX3_canGoOn 52 = .ok (.iload_n 2, 1) := by decide +kernel
theorem dX3_canGoOn_53 : decode cX3_canGoOn 53 = .ok (.ifCond .le 24, 3) := by decide +kernel
theorem dX3_canGoOn_56 : decode cX3_canGoOn 56 = .ok (.aload_n 0, 1) := by decide +kernel
theorem dX3_canGoOn_57 : decode cX3_canGoOn 57 = .ok (.aload_n 0, 1) := by decide +kernel
theorem dX3_canGoOn_58 : decode cX3_canGoOn 58 = .ok (.getfield 29, 3) := by decide +kernel
theorem dX3_canGoOn_61 : decode cX3_canGoOn 61 = .ok (.iload_n 1, 1) := by decide +kernel
theorem dX3_canGoOn_62 : decode cX3_canGoOn 62 = .ok (.invokevirtual 39, 3) := by decide +kernel
theorem dX3_canGoOn_65 : decode cX3_canGoOn 65 = .ok (.iload_n 2, 1) := by decide +kernel
theorem dX3_canGoOn_66 : decode cX3_canGoOn 66 = .ok (.iconst 2, 1) := by decide +kernel
theorem dX3_canGoOn_67 : decode cX3_canGoOn 67 = .ok (.invokevirtual 57, 3) := by decide +kernel
theorem dX3_canGoOn_70 : decode cX3_canGoOn 70 = .ok (.ifCond .eq 7, 3) := by decide +kernel
theorem dX3_canGoOn_73 : decode cX3_canGoOn 73 = .ok (.iconst 1, 1) := by decide +kernel
theorem dX3_canGoOn_74 : decode cX3_canGoOn 74 = .ok (.goto 4, 3) := by decide +kernel
theorem dX3_canGoOn_77 : decode cX3_canGoOn 77 = .ok (.iconst 0, 1) := by decide +kernel
theorem dX3_canGoOn_78 : decode cX3_canGoOn 78 = .ok (.ireturn, 1) := by decide +kernel
theorem dX3_eraseBroken_0 : decode cX3_eraseBroken 0 = .ok (.iconst 0, 1) := by decide +kernel
theorem dX3_eraseBroken_1 : decode cX3_eraseBroken 1 = .ok (.istore_n 1, 1) := by decide +kernel
theorem dX3_eraseBroken_2 : decode cX3_eraseBroken 2 = .ok (.iload_n 1, 1) := by decide +kernel
theorem dX3_eraseBroken_3 : decode cX3_eraseBroken 3 = .ok (.bipush 8, 2) := by decide +kernel
theorem dX3_eraseBroken_5 : decode cX3_eraseBroken 5 = .ok (.if_icmp .ge 38, 3) := by decide +kernel
theorem dX3_eraseBroken_8 : decode cX3_eraseBroken 8 = .ok (.aload_n 0, 1) := by decide +kernel
theorem dX3_eraseBroken_9 : decode cX3_eraseBroken 9 = .ok (.getfield 29, 3) := by decide +kernel
theorem dX3_eraseBroken_12 : decode cX3_eraseBroken 12 = .ok (.iload_n 1, 1) := by decide +kernel
theorem dX3_eraseBroken_13 : decode cX3_eraseBroken 13 = .ok (.invokevirtual 39, 3) := by decide +kernel
theorem dX3_eraseBroken_16 : decode cX3_eraseBroken 16 = .ok (.ifCond .ne 21, 3) := by decide +kernel
theorem dX3_eraseBroken_19 : decode cX3_eraseBroken 19 = .ok (.aload_n 0, 1) := by decide +kernel
theorem dX3_eraseBroken_20 : decode cX3_eraseBroken 20 = .ok (.getfield 29, 3) := by decide +kernel
theorem dX3_eraseBroken_23 : decode cX3_eraseBroken 23 = .ok (.iload_n 1, 1) := by decide +kernel
theorem dX3_eraseBroken_24 : decode cX3_eraseBroken 24 = .ok (.invokevirtual 83, 3) := by decide +kernel
theorem dX3_eraseBroken_27 : decode cX3_eraseBroken 27 = .ok (.ifCond .ne 5, 3) := by decide +kernel
theorem dX3_eraseBroken_30 : decode cX3_eraseBroken 30 = .ok (.iconst 0, 1) := by decide +kernel
theorem dX3_eraseBroken_31 : decode cX3_eraseBroken 31 = .ok (.ireturn, 1) := by decide +kernel
theorem dX3_eraseBroken_32 : decode cX3_eraseBroken 32 = .ok (.aload_n 0, 1) := by decide +kernel
theorem dX3_eraseBroken_33 : decode cX3_eraseBroken 33 = .ok (.iload_n 1, 1) := by decide +kernel
theorem dX3_eraseBroken_34 : decode cX3_eraseBroken 34 = .ok (.invokevirtual 90, 3) := by decide +kernel
theorem dX3_eraseBroken_37 : decode cX3_eraseBroken 37 = .ok (.iinc 1 1, 3) := by decide +kernel
theorem dX3_eraseBroken_40 : decode cX3_eraseBroken 40 = .ok (.goto (-38), 3) := by decide +kernel
theorem dX3_eraseBroken_43 : decode cX3_eraseBroken 43 = .ok (.iconst 1, 1) := by decide +kernel
theorem dX3_eraseBroken_44 : decode cX3_eraseBroken 44 = .ok (.ireturn, 1) := by decide +kernel
theorem dX4_init_0 : decode cX4_init 0 = .ok (.aload_n 0, 1) := by decide +kernel
theorem dX4_init_1 : decode cX4_init 1 = .ok (.invokespecial 3, 3) := by decide +kernel
theorem dX4_init_4 : decode cX4_init 4 = .ok (.return_, 1) := by decide +kernel
theorem dX4_clear_0 : decode cX4_clear 0 = .ok (.aload_n 0, 1) := by decide +kernel
theorem dX4_clear_1 : decode cX4_clear 1 = .ok (.iconst 0, 1) := by decide +kernel
theorem dX4_clear_2 : decode cX4_clear 2 = .ok (.putfield 9, 3) := by decide +kernel
theorem dX4_clear_5 : decode cX4_clear 5 = .ok (.aload_n 0, 1) := by decide +kernel
theorem dX4_clear_6 : decode cX4_clear 6 = .ok (.iconst 0, 1) := by decide +kernel
theorem dX4_clear_7 : decode cX4_clear 7 = .ok (.putfield 15, 3) := by decide +kernel
theorem dX4_clear_10 : decode cX4_clear 10 = .ok (.aload_n 0, 1) := by decide +kernel
theorem dX4_clear_11 : decode cX4_clear 11 = .ok (.iconst 0, 1) := by decide +kernel
theorem dX4_clear_12 : decode cX4_clear 12 = .ok (.putfield 18, 3) := by decide +kernel
theorem dX4_clear_15 : decode cX4_clear 15 = .ok (.aload_n 0, 1) := by decide +kernel
theorem dX4_clear_16 : decode cX4_clear 16 = .ok (.iconst 0, 1) := by decide +kernel
theorem dX4_clear_17 : decode cX4_clear 17 = .ok (.putfield 21, 3) := by decide +kernel
theorem dX4_clear_20 : decode cX4_clear 20 = .ok (.aload_n 0, 1) := by decide +kernel
theorem dX4_clear_21 : decode cX4_clear 21 = .ok (.iconst 0, 1) := by decide +kernel
theorem dX4_clear_22 : decode cX4_clear 22 = .ok (.putfield 24, 3) := by decide +kernel
theorem dX4_clear_25 : decode cX4_clear 25 = .ok (.aload_n 0, 1) := by decide +kernel
theorem dX4_clear_26 : decode cX4_clear 26 = .ok (.iconst 0, 1) := by decide +kernel
theorem dX4_clear_27 : decode cX4_clear 27 = .ok (.putfield 27, 3) := by decide +kernel
theorem dX4_clear_30 : decode cX4_clear 30 = .ok (.aload_n 0, 1) := by decide +kernel
theorem dX4_clear_31 : decode cX4_clear 31 = .ok (.iconst 0, 1) := by decide +kernel
theorem dX4_clear_32 : decode cX4_clear 32 = .ok (.putfield 30, 3) := by decide +kernel
theorem dX4_clear_35 : decode cX4_clear 35 = .ok (.aload_n 0, 1) := by decide +kernel
theorem dX4_clear_36 : decode cX4_clear 36 = .ok (.lconst 0, 1) := by decide +kernel
theorem dX4_clear_37 : decode cX4_clear 37 = .ok (.putfield 33, 3) := by decide +kernel
theorem dX4_clear_40 : decode cX4_clear 40 = .ok (.aload_n 0, 1) := by decide +kernel
theorem dX4_clear_41 : decode cX4_clear 41 = .ok (.lconst 0, 1) := by decide +kernel
theorem dX4_clear_42 : decode cX4_clear 42 = .ok (.putfield 37, 3) := by decide +kernel
theorem dX4_clear_45 : decode cX4_clear 45 = .ok (.aload_n 0, 1) := by decide +kernel
theorem dX4_clear_46 : decode cX4_clear 46 = .ok (.iconst 0, 1) := by decide +kernel
theorem dX4_clear_47 : decode cX4_clear 47 = .ok (.putfield 40, 3) := by decide +kernel
theorem dX4_clear_50 : decode cX4_clear 50 = .ok (.aload_n 0, 1) := by decide +kernel
theorem dX4_clear_51 : decode cX4_clear 51 = .ok (.iconst 0, 1) := by decide +kernel
theorem dX4_clear_52 : decode cX4_clear 52 = .ok (.putfield 43, 3) := by decide +kernel
theorem dX4_clear_55 : decode cX4_clear 55 = .ok (.aload_n 0, 1) := by decide +kernel
theorem dX4_clear_56 : decode cX4_clear 56 = .ok (.iconst 0, 1) := by decide +kernel
theorem dX4_clear_57 : decode cX4_clear 57 = .ok (.putfield 46, 3) := by decide +kernel
theorem dX4_clear_60 : decode cX4_clear 60 = .ok (.aload_n 0, 1) := by decide +kernel
theorem dX4_clear_61 : decode cX4_clear 61 = .ok (.iconst 0, 1) := by decide +kernel
theorem dX4_clear_62 : decode cX4_clear 62 = .ok (.putfield 50, 3) := by decide +kernel
theorem dX4_clear_65 : decode cX4_clear 65 = .ok (.aload_n 0, 1) := by decide +kernel
theorem dX4_clear_66 : decode cX4_clear 66 = .ok (.iconst 0, 1) := by decide +kernel
theorem dX4_clear_67 : decode cX4_clear 67 = .ok (.putfield 53, 3) := by decide +kernel
theorem dX4_clear_70 : decode cX4_clear 70 = .ok (.return_, 1) := by decide +kernel
theorem dX4_becomeData_0 : decode cX4_becomeData 0 = .ok (.aload_n 0, 1) := by decide +kernel
theorem dX4_becomeData_1 : decode cX4_becomeData 1 = .ok (.invokevirtual 56, 3) := by decide +kernel
theorem dX4_becomeData_4 : decode cX4_becomeData 4 = .ok (.aload_n 0, 1) := by decide +kernel
theorem dX4_becomeData_5 : decode cX4_becomeData 5 = .ok (.iconst 1, 1) := by decide +kernel
theorem dX4_becomeData_6 : decode cX4_becomeData 6 = .ok (.putfield 9, 3) := by decide +kernel
theorem dX4_becomeData_9 : decode cX4_becomeData 9 = .ok (.aload_n 0, 1) := by decide +kernel
theorem dX4_becomeData_10 : decode cX4_becomeData 10 = .ok (.iconst 2, 1) := by decide +kernel
theorem dX4_becomeData_11 : decode cX4_becomeData 11 = .ok (.putfield 15, 3) := by decide +kernel
theorem dX4_becomeData_14 : decode cX4_becomeData 14 = .ok (.aload_n 0, 1) := by decide +kernel
theorem dX4_becomeData_15 : decode cX4_becomeData 15 = .ok (.iload_n 1, 1) := by decide +kernel
theorem dX4_becomeData_16 : decode cX4_becomeData 16 = .ok (.putfield 21, 3) := by decide +kernel
theorem dX4_becomeData_19 : decode cX4_becomeData 19 = .ok (.aload_n 0, 1) := by decide +kernel
theorem dX4_becomeData_20 : decode cX4_becomeData 20 = .ok (.iload_n 2, 1) := by decide +kernel
theorem dX4_becomeData_21 : decode cX4_becomeData 21 = .ok (.putfield 24, 3) := by decide +kernel
theorem dX4_becomeData_24 : decode cX4_becomeData 24 = .ok (.aload_n 0, 1) := by decide +kernel
theorem dX4_becomeData_25 : decode cX4_becomeData 25 = .ok (.iload_n 3, 1) := by decide +kernel
theorem dX4_becomeData_26 : decode cX4_becomeData 26 = .ok (.putfield 27, 3) := by decide +kernel
theorem dX4_becomeData_29 : decode cX4_becomeData 29 = .ok (.aload_n 0, 1) := by decide +kernel
theorem dX4_becomeData_30 : decode cX4_becomeData 30 = .ok (.iload 4, 2) := by decide +kernel
theorem dX4_becomeData_32 : decode cX4_becomeData 32 = .ok (.putfield 40, 3) := by decide +kernel
theorem dX4_becomeData_35 : decode cX4_becomeData 35 = .ok (.return_, 1) := by decide +kernel
theorem dX4_giveBytes_0 : decode cX4_giveBytes 0 = .ok (.aload_n 0, 1) := by decide +kernel
theorem dX4_giveBytes_1 : decode cX4_giveBytes 1 = .ok (.lload_n 1, 1) := by decide +kernel
theorem dX4_giveBytes_2 : decode cX4_giveBytes 2 = .ok (.putfield 33, 3) := by decide +kernel
theorem dX4_giveBytes_5 : decode cX4_giveBytes 5 = .ok (.aload_n 0, 1) := by decide +kernel
theorem dX4_giveBytes_6 : decode cX4_giveBytes 6 = .ok (.iload_n 3, 1) := by decide +kernel
theorem dX4_giveBytes_7 : decode cX4_giveBytes 7 = .ok (.putfield 30, 3) := by decide +kernel
theorem dX4_giveBytes_10 : decode cX4_giveBytes 10 = .ok (.aload_n 0, 1) := by decide +kernel
theorem dX4_giveBytes_11 : decode cX4_giveBytes 11 = .ok (.lconst 1, 1) := by decide +kernel
theorem dX4_giveBytes_12 : decode cX4_giveBytes 12 = .ok (.iload_n 3, 1) := by decide +kernel
theorem dX4_giveBytes_13 : decode cX4_giveBytes 13 = .ok (.lshl, 1) := by decide +kernel
theorem dX4_giveBytes_14 : decode cX4_giveBytes 14 = .ok (.lconst 1, 1) := by decide +kernel
theorem dX4_giveBytes_15 : decode cX4_giveBytes 15 = .ok (.lsub, 1) := by decide +kernel
theorem dX4_giveBytes_16 : decode cX4_giveBytes 16 = .ok (.aload_n 0, 1) := by decide +kernel
theorem dX4_giveBytes_17 : decode cX4_giveBytes 17 = .ok (.getfield 27, 3) := by decide +kernel
theorem dX4_giveBytes_20 : decode cX4_giveBytes 20 = .ok (.lshl, 1) := by decide +kernel
theorem dX4_giveBytes_21 : decode cX4_giveBytes 21 = .ok (.putfield 37, 3) := by decide +kernel
theorem dX4_giveBytes_24 : decode cX4_giveBytes 24 = .ok (.aload_n 0, 1) := by decide +kernel
theorem dX4_giveBytes_25 : decode cX4_giveBytes 25 = .ok (.iconst 2, 1) := by decide +kernel
theorem dX4_giveBytes_26 : decode cX4_giveBytes 26 = .ok (.iload_n 3, 1) := by decide +kernel
theorem dX4_giveBytes_27 : decode cX4_giveBytes 27 = .ok (.iadd, 1) := by decide +kernel
theorem dX4_giveBytes_28 : decode cX4_giveBytes 28 = .ok (.putfield 15, 3) := by decide +kernel
theorem dX4_giveBytes_31 : decode cX4_giveBytes 31 = .ok (.return_, 1) := by decide +kernel
theorem dX4_becomeName_0 : decode cX4_becomeName 0 = .ok (.aload_n 0, 1) := by decide +kernel
theorem dX4_becomeName_1 : decode cX4_becomeName 1 = .ok (.invokevirtual 56, 3) := by decide +kernel
theorem dX4_becomeName_4 : decode cX4_becomeName 4 = .ok (.aload_n 0, 1) := by decide +kernel
theorem dX4_becomeName_5 : decode cX4_becomeName 5 = .ok (.iconst 2, 1) := by decide +kernel
theorem dX4_becomeName_6 : decode cX4_becomeName 6 = .ok (.putfield 9, 3) := by decide +kernel
theorem dX4_becomeName_9 : decode cX4_becomeName 9 = .ok (.aload_n 0, 1) := by decide +kernel
theorem dX4_becomeName_10 : decode cX4_becomeName 10 = .ok (.iconst 3, 1) := by decide +kernel
theorem dX4_becomeName_11 : decode cX4_becomeName 11 = .ok (.putfield 15, 3) := by decide +kernel
theorem dX4_becomeName_14 : decode cX4_becomeName 14 = .ok (.aload_n 0, 1) := by decide +kernel
theorem dX4_becomeName_15 : decode cX4_becomeName 15 = .ok (.iload_n 1, 1) := by decide +kernel
theorem dX4_becomeName_16 : decode cX4_becomeName 16 = .ok (.putfield 21, 3) := by decide +kernel
theorem dX4_becomeName_19 : decode cX4_becomeName 19 = .ok (.aload_n 0, 1) := by decide +kernel
theorem dX4_becomeName_20 : decode cX4_becomeName 20 = .ok (.iload_n 2, 1) := by decide +kernel
theorem dX4_becomeName_21 : decode cX4_becomeName 21 = .ok (.putfield 24, 3) := by decide +kernel
theorem dX4_becomeName_24 : decode cX4_becomeName 24 = .ok (.aload_n 0, 1) := by decide +kernel
theorem dX4_becomeName_25 : decode cX4_becomeName 25 = .ok (.iload_n 3, 1) := by decide +kernel
theorem dX4_becomeName_26 : decode cX4_becomeName 26 = .ok (.putfield 27, 3) := by decide +kernel
theorem dX4_becomeName_29 : decode cX4_becomeName 29 = .ok (.aload_n 0, 1) := by decide +kernel
theorem dX4_becomeName_30 : decode cX4_becomeName 30 = .ok (.iload 4, 2) := by decide +kernel
theorem dX4_becomeName_32 : decode cX4_becomeName 32 = .ok (.putfield 43, 3) := by decide +kernel
theorem dX4_becomeName_35 : decode cX4_becomeName 35 = .ok (.aload_n 0, 1) := by decide +kernel
theorem dX4_becomeName_36 : decode cX4_becomeName 36 = .ok (.iload 5, 2) := by decide +kernel
theorem dX4_becomeName_38 : decode cX4_becomeName 38 = .ok (.putfield 46, 3) := by decide +kernel
theorem dX4_becomeName_41 : decode cX4_becomeName 41 = .ok (.return_, 1) := by decide +kernel
theorem dX4_becomeSummary_0 : decode cX4_becomeSummary 0 = .ok (.aload_n 0, 1) := by decide +kernel
theorem dX4_becomeSummary_1 : decode cX4_becomeSummary 1 = .ok (.invokevirtual 56, 3) := by decide +kernel
theorem dX4_becomeSummary_4 : decode cX4_becomeSummary 4 = .ok (.aload_n 0, 1) := by decide +kernel
theorem dX4_becomeSummary_5 : decode cX4_becomeSummary 5 = .ok (.iconst 3, 1) := by decide +kernel
theorem dX4_becomeSummary_6 : decode cX4_becomeSummary 6 = .ok (.putfield 9, 3) := by decide +kernel
theorem dX4_becomeSummary_9 : decode cX4_becomeSummary 9 = .ok (.aload_n 0, 1) := by decide +kernel
theorem dX4_becomeSummary_10 : decode cX4_becomeSummary 10 = .ok (.iconst 1, 1) := by decide +kernel
theorem dX4_becomeSummary_11 : decode cX4_becomeSummary 11 = .ok (.iload_n 1, 1) := by decide +kernel
theorem dX4_becomeSummary_12 : decode cX4_becomeSummary 12 = .ok (.iadd, 1) := by decide +kernel
theorem dX4_becomeSummary_13 : decode cX4_becomeSummary 13 = .ok (.putfield 15, 3) := by decide +kernel
theorem dX4_becomeSummary_16 : decode cX4_becomeSummary 16 = .ok (.return_, 1) := by decide +kernel
theorem dX4_copyFrom_0 : decode cX4_copyFrom 0 = .ok (.aload_n 0, 1) := by decide +kernel
theorem dX4_copyFrom_1 : decode cX4_copyFrom 1 = .ok (.aload_n 1, 1) := by decide +kernel
theorem dX4_copyFrom_2 : decode cX4_copyFrom 2 = .ok (.getfield 9, 3) := by decide +kernel
theorem dX4_copyFrom_5 : decode cX4_copyFrom 5 = .ok (.putfield 9, 3) := by decide +kernel
theorem dX4_copyFrom_8 : decode cX4_copyFrom 8 = .ok (.aload_n 0, 1) := by decide +kernel
theorem dX4_copyFrom_9 : decode cX4_copyFrom 9 = .ok (.aload_n 1, 1) := by decide +kernel
theorem dX4_copyFrom_10 : decode cX4_copyFrom 10 = .ok (.getfield 15, 3) := by decide +kernel
theorem dX4_copyFrom_13 : decode cX4_copyFrom 13 = .ok (.putfield 15, 3) := by decide +kernel
theorem dX4_copyFrom_16 : decode cX4_copyFrom 16 = .ok (.aload_n 0, 1) := by decide +kernel
theorem dX4_copyFrom_17 : decode cX4_copyFrom 17 = .ok (.iconst 0, 1) := by decide +kernel
theorem dX4_copyFrom_18 : decode cX4_copyFrom 18 = .ok (.putfield 18, 3) := by decide +kernel
theorem dX4_copyFrom_21 : decode cX4_copyFrom 21 = .ok (.aload_n 0, 1) := by decide +kernel
theorem dX4_copyFrom_22 : decode cX4_copyFrom 22 = .ok (.aload_n 1, 1) := by decide +kernel
theorem dX4_copyFrom_23 : decode cX4_copyFrom 23 = .ok (.getfield 21, 3) := by decide +kernel
theorem dX4_copyFrom_26 : decode cX4_copyFrom 26 = .ok (.putfield 21, 3) := by decide +kernel
theorem dX4_copyFrom_29 : decode cX4_copyFrom 29 = .ok (.aload_n 0, 1) := by decide +kernel
theorem dX4_copyFrom_30 : decode cX4_copyFrom 30 = .ok (.aload_n 1, 1) := by decide +kernel
theorem dX4_copyFrom_31 : decode cX4_copyFrom 31 = .ok (.getfield 24, 3) := by decide +kernel
theorem dX4_copyFrom_34 : decode cX4_copyFrom 34 = .ok (.putfield 24, 3) := by decide +kernel
theorem dX4_copyFrom_37 : decode cX4_copyFrom 37 = .ok (.aload_n 0, 1) := by decide +kernel
theorem dX4_copyFrom_38 : decode cX4_copyFrom 38 = .ok (.aload_n 1, 1) := by decide +kernel
theorem dX4_copyFrom_39 : decode cX4_copyFrom 39 = .ok (.getfield 27, 3) := by decide +kernel
theorem dX4_copyFrom_42 : decode cX4_copyFrom 42 = .ok (.putfield 27, 3) := by decide +kernel
theorem dX4_copyFrom_45 : decode cX4_copyFrom 45 = .ok (.aload_n 0, 1) := by decide +kernel
theorem dX4_copyFrom_46 : decode cX4_copyFrom 46 = .ok (.aload_n 1, 1) := by decide +kernel
theorem dX4_copyFrom_47 : decode cX4_copyFrom 47 = .ok (.getfield 30, 3) := by decide +kernel
theorem dX4_copyFrom_50 : decode cX4_copyFrom 50 = .ok (.putfield 30, 3) := by decide +kernel
theorem dX4_copyFrom_53 : decode cX4_copyFrom 53 = .ok (.aload_n 0, 1) := by decide +kernel
theorem dX4_copyFrom_54 : decode cX4_copyFrom 54 = .ok (.aload_n 1, 1) := by decide +kernel
theorem dX4_copyFrom_55 : decode cX4_copyFrom 55 = .ok (.getfield 33, 3) := by decide +kernel
theorem dX4_copyFrom_58 : decode cX4_copyFrom 58 = .ok (.putfield 33, 3) := by decide +kernel
theorem dX4_copyFrom_61 : decode cX4_copyFrom 61 = .ok (.aload_n 0, 1) := by decide +kernel
theorem dX4_copyFrom_62 : decode cX4_copyFrom 62 = .ok (.aload_n 1, 1) := by decide +kernel
theorem dX4_copyFrom_63 : decode cX4_copyFrom 63 = .ok (.getfield 37, 3) := by decide +kernel
theorem dX4_copyFrom_66 : decode cX4_copyFrom 66 = .ok (.putfield 37, 3) := by decide +kernel
theorem dX4_copyFrom_69 : decode cX4_copyFrom 69 = .ok (.aload_n 0, 1) := by decide +kernel
theorem dX4_copyFrom_70 : decode cX4_copyFrom 70 = .ok (.aload_n 1, 1) := by decide +kernel
theorem dX4_copyFrom_71 : decode cX4_copyFrom 71 = .ok (.getfield 40, 3) := by decide +kernel
theorem dX4_copyFrom_74 : decode cX4_copyFrom 74 = .ok (.putfield 40, 3) := by decide +kernel
theorem dX4_copyFrom_77 : decode cX4_copyFrom 77 = .ok (.aload_n 0, 1) := by decide +kernel
theorem dX4_copyFrom_78 : decode cX4_copyFrom 78 = .ok (.aload_n 1, 1) := by decide +kernel
theorem dX4_copyFrom_79 : decode cX4_copyFrom 79 = .ok (.getfield 43, 3) := by decide +kernel
theorem dX4_copyFrom_82 : decode cX4_copyFrom 82 = .ok (.putfield 43, 3) := by decide +kernel
theorem dX4_copyFrom_85 : decode cX4_copyFrom 85 = .ok (.aload_n 0, 1) := by decide +kernel
theorem dX4_copyFrom_86 : decode cX4_copyFrom 86 = .ok (.aload_n 1, 1) := by decide +kernel
theorem dX4_copyFrom_87 : decode cX4_copyFrom 87 = .ok (.getfield 46, 3) := by decide +kernel
theorem dX4_copyFrom_90 : decode cX4_copyFrom 90 = .ok (.putfield 46, 3) := by decide +kernel
theorem dX4_copyFrom_93 : decode cX4_copyFrom 93 = .ok (.aload_n 0, 1) := by decide +kernel
theorem dX4_copyFrom_94 : decode cX4_copyFrom 94 = .ok (.iconst 0, 1) := by decide +kernel
theorem dX4_copyFrom_95 : decode cX4_copyFrom 95 = .ok (.putfield 50, 3) := by decide +kernel
theorem dX4_copyFrom_98 : decode cX4_copyFrom 98 = .ok (.aload_n 0, 1) := by decide +kernel
theorem dX4_copyFrom_99 : decode cX4_copyFrom 99 = .ok (.iconst 0, 1) := by decide +kernel
theorem dX4_copyFrom_100 : decode cX4_copyFrom 100 = .ok (.putfield 53, 3) := by decide +kernel
theorem dX4_copyFrom_103 : decode cX4_copyFrom 103 = .ok (.return_, 1) := by decide +kernel
theorem dX4_isWhole_0 : decode cX4_isWhole 0 = .ok (.aload_n 0, 1) := by decide +kernel
theorem dX4_isWhole_1 : decode cX4_isWhole 1 = .ok (.getfield 9, 3) := by decide +kernel
theorem dX4_isWhole_4 : decode cX4_isWhole 4 = .ok (.ifCond .eq 18, 3) := by decide +kernel
theorem dX4_isWhole_7 : decode cX4_isWhole 7 = .ok (.aload_n 0, 1) := by decide +kernel
theorem dX4_isWhole_8 : decode cX4_isWhole 8 = .ok (.getfield 18, 3) := by decide +kernel
theorem dX4_isWhole_11 : decode cX4_isWhole 11 = .ok (.aload_n 0, 1) := by decide +kernel
theorem dX4_isWhole_12 : decode cX4_isWhole 12 = .ok (.getfield 15, 3) := by decide +kernel
theorem dX4_isWhole_15 : decode cX4_isWhole 15 = .ok (.if_icmp .ne 7, 3) := by decide +kernel
theorem dX4_isWhole_18 : decode cX4_isWhole 18 = .ok (.iconst 1, 1) := by decide +kernel
theorem dX4_isWhole_19 : decode cX4_isWhole 19 = .ok (.goto 4, 3) := by decide +kernel
theorem dX4_isWhole_22 : decode cX4_isWhole 22 = .ok (.iconst 0, 1) := by decide +kernel
theorem dX4_isWhole_23 : decode cX4_isWhole 23 = .ok (.ireturn, 1) := by decide +kernel
theorem dX4_tells_0 : decode cX4_tells 0 = .ok (.aload_n 0, 1) := by decide +kernel
theorem dX4_tells_1 : decode cX4_tells 1 = .ok (.getfield 9, 3) := by decide +kernel
theorem dX4_tells_4 : decode cX4_tells 4 = .ok (.iload_n 1, 1) := by decide +kernel
theorem dX4_tells_5 : decode cX4_tells 5 = .ok (.if_icmp .ne 33, 3) := by decide +kernel
theorem dX4_tells_8 : decode cX4_tells 8 = .ok (.aload_n 0, 1) := by decide +kernel
theorem dX4_tells_9 : decode cX4_tells 9 = .ok (.getfield 21, 3) := by decide +kernel
theorem dX4_tells_12 : decode cX4_tells 12 = .ok (.iload_n 2, 1) := by decide +kernel
theorem dX4_tells_13 : decode cX4_tells 13 = .ok (.if_icmp .ne 25, 3) := by decide +kernel
theorem dX4_tells_16 : decode cX4_tells 16 = .ok (.aload_n 0, 1) := by decide +kernel
theorem dX4_tells_17 : decode cX4_tells 17 = .ok (.getfield 18, 3) := by decide +kernel
theorem dX4_tells_20 : decode cX4_tells 20 = .ok (.aload_n 0, 1) := by decide +kernel
theorem dX4_tells_21 : decode cX4_tells 21 = .ok (.getfield 15, 3) := by decide +kernel
theorem dX4_tells_24 : decode cX4_tells 24 = .ok (.if_icmp .ne 14, 3) := by decide +kernel
theorem dX4_tells_27 : decode cX4_tells 27 = .ok (.aload_n 0, 1) := by decide +kernel
theorem dX4_tells_28 : decode cX4_tells 28 = .ok (.getfield 53, 3) := by decide +kernel
theorem dX4_tells_31 : decode cX4_tells 31 = .ok (.ifCond .ne 7, 3) := by decide +kernel
theorem dX4_tells_34 : decode cX4_tells 34 = .ok (.iconst 1, 1) := by decide +kernel
theorem dX4_tells_35 : decode cX4_tells 35 = .ok (.goto 4, 3) := by decide +kernel
theorem dX4_tells_38 : decode cX4_tells 38 = .ok (.iconst 0, 1) := by decide +kernel
theorem dX4_tells_39 : decode cX4_tells 39 = .ok (.ireturn, 1) := by decide +kernel
theorem dX4_isCopyOf_0 : decode cX4_isCopyOf 0 = .ok (.aload_n 0, 1) := by decide +kernel
theorem dX4_isCopyOf_1 : decode cX4_isCopyOf 1 = .ok (.aload_n 1, 1) := by decide +kernel
theorem dX4_isCopyOf_2 : decode cX4_isCopyOf 2 = .ok (.getfield 9, 3) := by decide +kernel
theorem dX4_isCopyOf_5 : decode cX4_isCopyOf 5 = .ok (.aload_n 1, 1) := by decide +kernel
theorem dX4_isCopyOf_6 : decode cX4_isCopyOf 6 = .ok (.getfield 21, 3) := by decide +kernel
theorem dX4_isCopyOf_9 : decode cX4_isCopyOf 9 = .ok (.invokevirtual 59, 3) := by decide +kernel
theorem dX4_isCopyOf_12 : decode cX4_isCopyOf 12 = .ok (.ifCond .eq 18, 3) := by decide +kernel
theorem dX4_isCopyOf_15 : decode cX4_isCopyOf 15 = .ok (.aload_n 0, 1) := by decide +kernel
theorem dX4_isCopyOf_16 : decode cX4_isCopyOf 16 = .ok (.getfield 24, 3) := by decide +kernel
theorem dX4_isCopyOf_19 : decode cX4_isCopyOf 19 = .ok (.aload_n 1, 1) := by decide +kernel
theorem dX4_isCopyOf_20 : decode cX4_isCopyOf 20 = .ok (.getfield 24, 3) := by decide +kernel
theorem dX4_isCopyOf_23 : decode cX4_isCopyOf 23 = .ok (.if_icmp .ne 7, 3) := by decide +kernel
theorem dX4_isCopyOf_26 : decode cX4_isCopyOf 26 = .ok (.iconst 1, 1) := by decide +kernel
theorem dX4_isCopyOf_27 : decode cX4_isCopyOf 27 = .ok (.goto 4, 3) := by decide +kernel
theorem dX4_isCopyOf_30 : decode cX4_isCopyOf 30 = .ok (.iconst 0, 1) := by decide +kernel
theorem dX4_isCopyOf_31 : decode cX4_isCopyOf 31 = .ok (.ireturn, 1) := by decide +kernel
theorem dX4_laysAt_0 : decode cX4_laysAt 0 = .ok (.iload_n 1, 1) := by decide +kernel
theorem dX4_laysAt_1 : decode cX4_laysAt 1 = .ok (.aload_n 0, 1) := by decide +kernel
theorem dX4_laysAt_2 : decode cX4_laysAt 2 = .ok (.getfield 27, 3) := by decide +kernel
theorem dX4_laysAt_5 : decode cX4_laysAt 5 = .ok (.if_icmp .lt 20, 3) := by decide +kernel
theorem dX4_laysAt_8 : decode cX4_laysAt 8 = .ok (.iload_n 1, 1) := by decide +kernel
theorem dX4_laysAt_9 : decode cX4_laysAt 9 = .ok (.aload_n 0, 1) := by decide +kernel
theorem dX4_laysAt_10 : decode cX4_laysAt 10 = .ok (.getfield 27, 3) := by decide +kernel
theorem dX4_laysAt_13 : decode cX4_laysAt 13 = .ok (.isub, 1) := by decide +kernel
theorem dX4_laysAt_14 : decode cX4_laysAt 14 = .ok (.aload_n 0, 1) := by decide +kernel
theorem dX4_laysAt_15 : decode cX4_laysAt 15 = .ok (.getfield 30, 3) := by decide +kernel
theorem dX4_laysAt_18 : decode cX4_laysAt 18 = .ok (.if_icmp .ge 7, 3) := by decide +kernel
theorem dX4_laysAt_21 : decode cX4_laysAt 21 = .ok (.iconst 1, 1) := by decide +kernel
theorem dX4_laysAt_22 : decode cX4_laysAt 22 = .ok (.goto 4, 3) := by decide +kernel
theorem dX4_laysAt_25 : decode cX4_laysAt 25 = .ok (.iconst 0, 1) := by decide +kernel
theorem dX4_laysAt_26 : decode cX4_laysAt 26 = .ok (.ireturn, 1) := by decide +kernel
theorem dX4_settles_0 : decode cX4_settles 0 = .ok (.aload_n 0, 1) := by decide +kernel
theorem dX4_settles_1 : decode cX4_settles 1 = .ok (.getfield 9, 3) := by decide +kernel
theorem dX4_settles_4 : decode cX4_settles 4 = .ok (.iconst 2, 1) := by decide +kernel
theorem dX4_settles_5 : decode cX4_settles 5 = .ok (.if_icmp .ne 17, 3) := by decide +kernel
theorem dX4_settles_8 : decode cX4_settles 8 = .ok (.aload_n 0, 1) := by decide +kernel
theorem dX4_settles_9 : decode cX4_settles 9 = .ok (.getfield 27, 3) := by decide +kernel
theorem dX4_settles_12 : decode cX4_settles 12 = .ok (.iload_n 1, 1) := by decide +kernel
theorem dX4_settles_13 : decode cX4_settles 13 = .ok (.if_icmp .ne 7, 3) := by decide +kernel
theorem dX4_settles_16 : decode cX4_settles 16 = .ok (.iconst 1, 1) := by decide +kernel
theorem dX4_settles_17 : decode cX4_settles 17 = .ok (.goto 4, 3) := by decide +kernel
theorem dX4_settles_20 : decode cX4_settles 20 = .ok (.iconst 0, 1) := by decide +kernel
theorem dX4_settles_21 : decode cX4_settles 21 = .ok (.ireturn, 1) := by decide +kernel
theorem dX4_settles_22 : decode cX4_settles 22 = .ok (.iload_n 1, 1) := by decide +kernel
theorem dX4_settles_23 : decode cX4_settles 23 = .ok (.aload_n 0, 1) := by decide +kernel
theorem dX4_settles_24 : decode cX4_settles 24 = .ok (.getfield 40, 3) := by decide +kernel
theorem dX4_settles_27 : decode cX4_settles 27 = .ok (.if_icmp .ge 24, 3) := by decide +kernel
theorem dX4_settles_30 : decode cX4_settles 30 = .ok (.iload_n 1, 1) := by decide +kernel
theorem dX4_settles_31 : decode cX4_settles 31 = .ok (.aload_n 0, 1) := by decide +kernel
theorem dX4_settles_32 : decode cX4_settles 32 = .ok (.getfield 27, 3) := by decide +kernel
theorem dX4_settles_35 : decode cX4_settles 35 = .ok (.if_icmp .lt 20, 3) := by decide +kernel
theorem dX4_settles_38 : decode cX4_settles 38 = .ok (.iload_n 1, 1) := by decide +kernel
theorem dX4_settles_39 : decode cX4_settles 39 = .ok (.aload_n 0, 1) := by decide +kernel
theorem dX4_settles_40 : decode cX4_settles 40 = .ok (.getfield 27, 3) := by decide +kernel
theorem dX4_settles_43 : decode cX4_settles 43 = .ok (.isub, 1) := by decide +kernel
theorem dX4_settles_44 : decode cX4_settles 44 = .ok (.aload_n 0, 1) := by decide +kernel
theorem dX4_settles_45 : decode cX4_settles 45 = .ok (.getfield 30, 3) := by decide +kernel
theorem dX4_settles_48 : decode cX4_settles 48 = .ok (.if_icmp .ge 7, 3) := by decide +kernel
theorem dX4_settles_51 : decode cX4_settles 51 = .ok (.iconst 1, 1) := by decide +kernel
theorem dX4_settles_52 : decode cX4_settles 52 = .ok (.goto 4, 3) := by decide +kernel
theorem dX4_settles_55 : decode cX4_settles 55 = .ok (.iconst 0, 1) := by decide +kernel
theorem dX4_settles_56 : decode cX4_settles 56 = .ok (.ireturn, 1) := by decide +kernel
theorem dX4_byteFor_0 : decode cX4_byteFor 0 = .ok (.aload_n 0, 1) := by decide +kernel
theorem dX4_byteFor_1 : decode cX4_byteFor 1 = .ok (.iload_n 1, 1) := by decide +kernel
theorem dX4_byteFor_2 : decode cX4_byteFor 2 = .ok (.invokevirtual 63, 3) := by decide +kernel
theorem dX4_byteFor_5 : decode cX4_byteFor 5 = .ok (.ifCond .eq 25, 3) := by decide +kernel
theorem dX4_byteFor_8 : decode cX4_byteFor 8 = .ok (.aload_n 0, 1) := by decide +kernel
theorem dX4_byteFor_9 : decode cX4_byteFor 9 = .ok (.getfield 33, 3) := by decide +kernel
theorem dX4_byteFor_12 : decode cX4_byteFor 12 = .ok (.bipush 8, 2) := by decide +kernel
theorem dX4_byteFor_14 : decode cX4_byteFor 14 = .ok (.iload_n 1, 1) := by decide +kernel
theorem dX4_byteFor_15 : decode cX4_byteFor 15 = .ok (.aload_n 0, 1) := by decide +kernel
theorem dX4_byteFor_16 : decode cX4_byteFor 16 = .ok (.getfield 27, 3) := by decide +kernel
theorem dX4_byteFor_19 : decode cX4_byteFor 19 = .ok (.isub, 1) := by decide +kernel
theorem dX4_byteFor_20 : decode cX4_byteFor 20 = .ok (.imul, 1) := by decide +kernel
theorem dX4_byteFor_21 : decode cX4_byteFor 21 = .ok (.lushr, 1) := by decide +kernel
theorem dX4_byteFor_22 : decode cX4_byteFor 22 = .ok (.l2i, 1) := by decide +kernel
theorem dX4_byteFor_23 : decode cX4_byteFor 23 = .ok (.sipush 255, 3) := by decide +kernel
theorem dX4_byteFor_26 : decode cX4_byteFor 26 = .ok (.iand, 1) := by decide +kernel
theorem dX4_byteFor_27 : decode cX4_byteFor 27 = .ok (.goto 4, 3) := by decide +kernel
theorem dX4_byteFor_30 : decode cX4_byteFor 30 = .ok (.iconst 0, 1) := by decide +kernel
theorem dX4_byteFor_31 : decode cX4_byteFor 31 = .ok (.ireturn, 1) := by decide +kernel
theorem dX4_settledPlaces_0 : decode cX4_settledPlaces 0 = .ok (.aload_n 0, 1) := by decide +kernel
theorem dX4_settledPlaces_1 : decode cX4_settledPlaces 1 = .ok (.getfield 40, 3) := by decide +kernel
theorem dX4_settledPlaces_4 : decode cX4_settledPlaces 4 = .ok (.bipush 64, 2) := by decide +kernel
theorem dX4_settledPlaces_6 : decode cX4_settledPlaces 6 = .ok (.if_icmp .lt 10, 3) := by decide +kernel
theorem dX4_settledPlaces_9 : decode cX4_settledPlaces 9 = .ok (.aload_n 0, 1) := by decide +kernel
theorem dX4_settledPlaces_10 : decode cX4_settledPlaces 10 = .ok (.getfield 37, 3) := by decide +kernel
theorem dX4_settledPlaces_13 : decode cX4_settledPlaces 13 = .ok (.goto 16, 3) := by decide +kernel
theorem dX4_settledPlaces_16 : decode cX4_settledPlaces 16 = .ok (.aload_n 0, 1) := by decide +kernel
theorem dX4_settledPlaces_17 : decode cX4_settledPlaces 17 = .ok (.getfield 37, 3) := by decide +kernel
theorem dX4_settledPlaces_20 : decode cX4_settledPlaces 20 = .ok (.ldc2_w 67, 3) := by decide +kernel
theorem dX4_settledPlaces_23 : decode cX4_settledPlaces 23 = .ok (.aload_n 0, 1) := by decide +kernel
theorem dX4_settledPlaces_24 : decode cX4_settledPlaces 24 = .ok (.getfield 40, 3) := by decide +kernel
theorem dX4_settledPlaces_27 : decode cX4_settledPlaces 27 = .ok (.lshl, 1) := by decide +kernel
theorem dX4_settledPlaces_28 : decode cX4_settledPlaces 28 = .ok (.lor, 1) := by decide +kernel
theorem dX4_settledPlaces_29 : decode cX4_settledPlaces 29 = .ok (.lreturn, 1) := by decide +kernel
theorem dX5_init_0 : decode cX5_init 0 = .ok (.aload_n 0, 1) := by decide +kernel
theorem dX5_init_1 : decode cX5_init 1 = .ok (.invokespecial 3, 3) := by decide +kernel
theorem dX5_init_4 : decode cX5_init 4 = .ok (.aload_n 0, 1) := by decide +kernel
theorem dX5_init_5 : decode cX5_init 5 = .ok (.sipush 129, 3) := by decide +kernel
theorem dX5_init_8 : decode cX5_init 8 = .ok (.anewarray 11, 3) := by decide +kernel
theorem dX5_init_11 : decode cX5_init 11 = .ok (.putfield 13, 3) := by decide +kernel
theorem dX5_init_14 : decode cX5_init 14 = .ok (.aload_n 0, 1) := by decide +kernel
theorem dX5_init_15 : decode cX5_init 15 = .ok (.sipush 129, 3) := by decide +kernel
theorem dX5_init_18 : decode cX5_init 18 = .ok (.anewarray 11, 3) := by decide +kernel
theorem dX5_init_21 : decode cX5_init 21 = .ok (.putfield 17, 3) := by decide +kernel
theorem dX5_init_24 : decode cX5_init 24 = .ok (.aload_n 0, 1) := by decide +kernel
theorem dX5_init_25 : decode cX5_init 25 = .ok (.invokevirtual 20, 3) := by decide +kernel
theorem dX5_init_28 : decode cX5_init 28 = .ok (.return_, 1) := by decide +kernel
theorem dX5_empty_0 : decode cX5_empty 0 = .ok (.aload_n 0, 1) := by decide +kernel
theorem dX5_empty_1 : decode cX5_empty 1 = .ok (.iconst 0, 1) := by decide +kernel
theorem dX5_empty_2 : decode cX5_empty 2 = .ok (.putfield 23, 3) := by decide +kernel
theorem dX5_empty_5 : decode cX5_empty 5 = .ok (.aload_n 0, 1) := by decide +kernel
theorem dX5_empty_6 : decode cX5_empty 6 = .ok (.iconst 1, 1) := by decide +kernel
theorem dX5_empty_7 : decode cX5_empty 7 = .ok (.putfield 27, 3) := by decide +kernel
theorem dX5_empty_10 : decode cX5_empty 10 = .ok (.aload_n 0, 1) := by decide +kernel
theorem dX5_empty_11 : decode cX5_empty 11 = .ok (.iconst 1, 1) := by decide +kernel
theorem dX5_empty_12 : decode cX5_empty 12 = .ok (.iconst 1, 1) := by decide +kernel
theorem dX5_empty_13 : decode cX5_empty 13 = .ok (.invokevirtual 30, 3) := by decide +kernel
theorem dX5_empty_16 : decode cX5_empty 16 = .ok (.pop, 1) := by decide +kernel
theorem dX5_empty_17 : decode cX5_empty 17 = .ok (.return_, 1) := by decide +kernel
theorem dX5_item_0 : decode cX5_item 0 = .ok (.iload_n 1, 1) := by decide +kernel
theorem dX5_item_1 : decode cX5_item 1 = .ok (.ifCond .lt 27, 3) := by decide +kernel
theorem dX5_item_4 : decode cX5_item 4 = .ok (.iload_n 1, 1) := by decide +kernel
theorem dX5_item_5 : decode cX5_item 5 = .ok (.aload_n 0, 1) := by decide +kernel
theorem dX5_item_6 : decode cX5_item 6 = .ok (.getfield 23, 3) := by decide +kernel
theorem dX5_item_9 : decode cX5_item 9 = .ok (.if_icmp .ge 19, 3) := by decide +kernel
theorem dX5_item_12 : decode cX5_item 12 = .ok (.iload_n 1, 1) := by decide +kernel
theorem dX5_item_13 : decode cX5_item 13 = .ok (.sipush 129, 3) := by decide +kernel
theorem dX5_item_16 : decode cX5_item 16 = .ok (.if_icmp .ge 12, 3) := by decide +kernel
theorem dX5_item_19 : decode cX5_item 19 = .ok (.aload_n 0, 1) := by decide +kernel
theorem dX5_item_20 : decode cX5_item 20 = .ok (.getfield 13, 3) := by decide +kernel
theorem dX5_item_23 : decode cX5_item 23 = .ok (.iload_n 1, 1) := by decide +kernel
theorem dX5_item_24 : decode cX5_item 24 = .ok (.aaload, 1) := by decide +kernel
theorem dX5_item_25 : decode cX5_item 25 = .ok (.goto 4, 3) := by decide +kernel
theorem dX5_item_28 : decode cX5_item 28 = .ok (.aconst_null, 1) := by decide +kernel
theorem dX5_item_29 : decode cX5_item 29 = .ok (.areturn, 1) := by decide +kernel
theorem dX5_find_0 : decode cX5_find 0 = .ok (.iconst 0, 1) := by decide +kernel
theorem dX5_find_1 : decode cX5_find 1 = .ok (.istore_n 2, 1) := by decide +kernel
theorem dX5_find_2 : decode cX5_find 2 = .ok (.iload_n 2, 1) := by decide +kernel
theorem dX5_find_3 : decode cX5_find 3 = .ok (.aload_n 0, 1) := by decide +kernel
theorem dX5_find_4 : decode cX5_find 4 = .ok (.getfield 23, 3) := by decide +kernel
theorem dX5_find_7 : decode cX5_find 7 = .ok (.if_icmp .ge 29, 3) := by decide +kernel
theorem dX5_find_10 : decode cX5_find 10 = .ok (.aload_n 0, 1) := by decide +kernel
theorem dX5_find_11 : decode cX5_find 11 = .ok (.iload_n 2, 1) := by decide +kernel
theorem dX5_find_12 : decode cX5_find 12 = .ok (.invokevirtual 34, 3) := by decide +kernel
theorem dX5_find_15 : decode cX5_find 15 = .ok (.astore_n 3, 1) := by decide +kernel
theorem dX5_find_16 : decode cX5_find 16 = .ok (.aload_n 3, 1) := by decide +kernel
theorem dX5_find_17 : decode cX5_find 17 = .ok (.ifnull 13, 3) := by decide +kernel
theorem dX5_find_20 : decode cX5_find 20 = .ok (.aload_n 3, 1) := by decide +kernel
theorem dX5_find_21 : decode cX5_find 21 = .ok (.getfield 38, 3) := by decide +kernel
theorem dX5_find_24 : decode cX5_find 24 = .ok (.iload_n 1, 1) := by decide +kernel
theorem dX5_find_25 : decode cX5_find 25 = .ok (.if_icmp .ne 5, 3) := by decide +kernel
theorem dX5_find_28 : decode cX5_find 28 = .ok (.aload_n 3, 1) := by decide +kernel
theorem dX5_find_29 : decode cX5_find 29 = .ok (.areturn, 1) := by decide +kernel
theorem dX5_find_30 : decode cX5_find 30 = .ok (.iinc 2 1, 3) := by decide +kernel
theorem dX5_find_33 : decode cX5_find 33 = .ok (.goto (-31), 3) := by decide +kernel
theorem dX5_find_36 : decode cX5_find 36 = .ok (.aconst_null, 1) := by decide +kernel
theorem dX5_find_37 : decode cX5_find 37 = .ok (.areturn, 1) := by decide +kernel
theorem dX5_holds_0 : decode cX5_holds 0 = .ok (.aload_n 0, 1) := by decide +kernel
theorem dX5_holds_1 : decode cX5_holds 1 = .ok (.iload_n 1, 1) := by decide +kernel
theorem dX5_holds_2 : decode cX5_holds 2 = .ok (.invokevirtual 41, 3) := by decide +kernel
theorem dX5_holds_5 : decode cX5_holds 5 = .ok (.astore_n 3, 1) := by decide +kernel
theorem dX5_holds_6 : decode cX5_holds 6 = .ok (.aload_n 3, 1) := by decide +kernel
theorem dX5_holds_7 : decode cX5_holds 7 = .ok (.ifnull 15, 3) := by decide +kernel
theorem dX5_holds_10 : decode cX5_holds 10 = .ok (.aload_n 3, 1) := by decide +kernel
theorem dX5_holds_11 : decode cX5_holds 11 = .ok (.getfield 44, 3) := by decide +kernel
theorem dX5_holds_14 : decode cX5_holds 14 = .ok (.iload_n 2, 1) := by decide +kernel
theorem dX5_holds_15 : decode cX5_holds 15 = .ok (.if_icmp .ne 7, 3) := by decide +kernel
theorem dX5_holds_18 : decode cX5_holds 18 = .ok (.iconst 1, 1) := by decide +kernel
theorem dX5_holds_19 : decode cX5_holds 19 = .ok (.goto 4, 3) := by decide +kernel
theorem dX5_holds_22 : decode cX5_holds 22 = .ok (.iconst 0, 1) := by decide +kernel
theorem dX5_holds_23 : decode cX5_holds 23 = .ok (.ireturn, 1) := by decide +kernel
theorem dX5_add_0 : decode cX5_add 0 = .ok (.aload_n 0, 1) := by decide +kernel
theorem dX5_add_1 : decode cX5_add 1 = .ok (.getfield 23, 3) := by decide +kernel
theorem dX5_add_4 : decode cX5_add 4 = .ok (.ifCond .lt 25, 3) := by decide +kernel
theorem dX5_add_7 : decode cX5_add 7 = .ok (.aload_n 0, 1) := by decide +kernel
theorem dX5_add_8 : decode cX5_add 8 = .ok (.getfield 23, 3) := by decide +kernel
theorem dX5_add_11 : decode cX5_add 11 = .ok (.sipush 129, 3) := by decide +kernel
theorem dX5_add_14 : decode cX5_add 14 = .ok (.if_icmp .ge 15, 3) := by decide +kernel
theorem dX5_add_17 : decode cX5_add 17 = .ok (.aload_n 0, 1) := by decide +kernel
theorem dX5_add_18 : decode cX5_add 18 = .ok (.getfield 13, 3) := by decide +kernel
theorem dX5_add_21 : decode cX5_add 21 = .ok (.aload_n 0, 1) := by decide +kernel
theorem dX5_add_22 : decode cX5_add 22 = .ok (.getfield 23, 3) := by decide +kernel
theorem dX5_add_25 : decode cX5_add 25 = .ok (.aaload, 1) := by decide +kernel
theorem dX5_add_26 : decode cX5_add 26 = .ok (.goto 4, 3) := by decide +kernel
theorem dX5_add_29 : decode cX5_add 29 = .ok (.aconst_null, 1) := by decide +kernel
theorem dX5_add_30 : decode cX5_add 30 = .ok (.astore_n 3, 1) := by decide +kernel
theorem dX5_add_31 : decode cX5_add 31 = .ok (.aload_n 3, 1) := by decide +kernel
theorem dX5_add_32 : decode cX5_add 32 = .ok (.ifnonnull 11, 3) := by decide +kernel
theorem dX5_add_35 : decode cX5_add 35 = .ok (.new 11, 3) := by decide +kernel
theorem dX5_add_38 : decode cX5_add 38 = .ok (.dup, 1) := by decide +kernel
theorem dX5_add_39 : decode cX5_add 39 = .ok (.invokespecial 48, 3) := by decide +kernel
theorem dX5_add_42 : decode cX5_add 42 = .ok (.astore_n 3, 1) := by decide +kernel
theorem dX5_add_43 : decode cX5_add 43 = .ok (.aload_n 0, 1) := by decide +kernel
theorem dX5_add_44 : decode cX5_add 44 = .ok (.getfield 23, 3) := by decide +kernel
theorem dX5_add_47 : decode cX5_add 47 = .ok (.ifCond .lt 33, 3) := by decide +kernel
theorem dX5_add_50 : decode cX5_add 50 = .ok (.aload_n 0, 1) := by decide +kernel
theorem dX5_add_51 : decode cX5_add 51 = .ok (.getfield 23, 3) := by decide +kernel
theorem dX5_add_54 : decode cX5_add 54 = .ok (.sipush 129, 3) := by decide +kernel
theorem dX5_add_57 : decode cX5_add 57 = .ok (.if_icmp .ge 23, 3) := by decide +kernel
theorem dX5_add_60 : decode cX5_add 60 = .ok (.aload_n 0, 1) := by decide +kernel
theorem dX5_add_61 : decode cX5_add 61 = .ok (.getfield 13, 3) := by decide +kernel
theorem dX5_add_64 : decode cX5_add 64 = .ok (.aload_n 0, 1) := by decide +kernel
theorem dX5_add_65 : decode cX5_add 65 = .ok (.getfield 23, 3) := by decide +kernel
theorem dX5_add_68 : decode cX5_add 68 = .ok (.aload_n 3, 1) := by decide +kernel
theorem dX5_add_69 : decode cX5_add 69 = .ok (.aastore, 1) := by decide +kernel
theorem dX5_add_70 : decode cX5_add 70 = .ok (.aload_n 0, 1) := by decide +kernel
theorem dX5_add_71 : decode cX5_add 71 = .ok (.dup, 1) := by decide +kernel
theorem dX5_add_72 : decode cX5_add 72 = .ok (.getfield 23, 3) := by decide +kernel
theorem dX5_add_75 : decode cX5_add 75 = .ok (.iconst 1, 1) := by decide +kernel
theorem dX5_add_76 : decode cX5_add 76 = .ok (.iadd, 1) := by decide +kernel
theorem dX5_add_77 : decode cX5_add 77 = .ok (.putfield 23, 3) := by decide +kernel
theorem dX5_add_80 : decode cX5_add 80 = .ok (.aload_n 3, 1) := by decide +kernel
theorem dX5_add_81 : decode cX5_add 81 = .ok (.iload_n 1, 1) := by decide +kernel
theorem dX5_add_82 : decode cX5_add 82 = .ok (.iload_n 2, 1) := by decide +kernel
theorem dX5_add_83 : decode cX5_add 83 = .ok (.invokevirtual 49, 3) := by decide +kernel
theorem dX5_add_86 : decode cX5_add 86 = .ok (.aload_n 0, 1) := by decide +kernel
theorem dX5_add_87 : decode cX5_add 87 = .ok (.aload_n 0, 1) := by decide +kernel
theorem dX5_add_88 : decode cX5_add 88 = .ok (.getfield 27, 3) := by decide +kernel
theorem dX5_add_91 : decode cX5_add 91 = .ok (.iload_n 1, 1) := by decide +kernel
theorem dX5_add_92 : decode cX5_add 92 = .ok (.iconst 1, 1) := by decide +kernel
theorem dX5_add_93 : decode cX5_add 93 = .ok (.iadd, 1) := by decide +kernel
theorem dX5_add_94 : decode cX5_add 94 = .ok (.invokestatic 53, 3) := by decide +kernel
theorem dX5_add_97 : decode cX5_add 97 = .ok (.putfield 27, 3) := by decide +kernel
theorem dX5_add_100 : decode cX5_add 100 = .ok (.aload_n 3, 1) := by decide +kernel
theorem dX5_add_101 : decode cX5_add 101 = .ok (.areturn, 1) := by decide +kernel
theorem dX5_drop_0 : decode cX5_drop 0 = .ok (.aload_n 0, 1) := by decide +kernel
theorem dX5_drop_1 : decode cX5_drop 1 = .ok (.getfield 23, 3) := by decide +kernel
theorem dX5_drop_4 : decode cX5_drop 4 = .ok (.iconst 1, 1) := by decide +kernel
theorem dX5_drop_5 : decode cX5_drop 5 = .ok (.isub, 1) := by decide +kernel
theorem dX5_drop_6 : decode cX5_drop 6 = .ok (.istore_n 2, 1) := by decide +kernel
theorem dX5_drop_7 : decode cX5_drop 7 = .ok (.iconst 0, 1) := by decide +kernel
theorem dX5_drop_8 : decode cX5_drop 8 = .ok (.istore_n 3, 1) := by decide +kernel
theorem dX5_drop_9 : decode cX5_drop 9 = .ok (.iload_n 3, 1) := by decide +kernel
theorem dX5_drop_10 : decode cX5_drop 10 = .ok (.iload_n 2, 1) := by decide +kernel
theorem dX5_drop_11 : decode cX5_drop 11 = .ok (.if_icmp .ge 45, 3) := by decide +kernel
theorem dX5_drop_14 : decode cX5_drop 14 = .ok (.iload_n 2, 1) := by decide +kernel
theorem dX5_drop_15 : decode cX5_drop 15 = .ok (.sipush 129, 3) := by decide +kernel
theorem dX5_drop_18 : decode cX5_drop 18 = .ok (.if_icmp .ge 38, 3) := by decide +kernel
theorem dX5_drop_21 : decode cX5_drop 21 = .ok (.aload_n 0, 1) := by decide +kernel
theorem dX5_drop_22 : decode cX5_drop 22 = .ok (.getfield 13, 3) := by decide +kernel
theorem dX5_drop_25 : decode cX5_drop 25 = .ok (.iload_n 3, 1) := by decide +kernel
theorem dX5_drop_26 : decode cX5_drop 26 = .ok (.aaload, 1) := by decide +kernel
theorem dX5_drop_27 : decode cX5_drop 27 = .ok (.aload_n 1, 1) := by decide +kernel
theorem dX5_drop_28 : decode cX5_drop 28 = .ok (.if_acmp .ne 22, 3) := by decide +kernel
theorem dX5_drop_31 : decode cX5_drop 31 = .ok (.aload_n 0, 1) := by decide +kernel
theorem dX5_drop_32 : decode cX5_drop 32 = .ok (.getfield 13, 3) := by decide +kernel
theorem dX5_drop_35 : decode cX5_drop 35 = .ok (.iload_n 3, 1) := by decide +kernel
theorem dX5_drop_36 : decode cX5_drop 36 = .ok (.aload_n 0, 1) := by decide +kernel
theorem dX5_drop_37 : decode cX5_drop 37 = .ok (.getfield 13, 3) := by decide +kernel
theorem dX5_drop_40 : decode cX5_drop 40 = .ok (.iload_n 2, 1) := by decide +kernel
theorem dX5_drop_41 : decode cX5_drop 41 = .ok (.aaload, 1) := by decide +kernel
theorem dX5_drop_42 : decode cX5_drop 42 = .ok (.aastore, 1) := by decide +kernel
theorem dX5_drop_43 : decode cX5_drop 43 = .ok (.aload_n 0, 1) := by decide +kernel
theorem dX5_drop_44 : decode cX5_drop 44 = .ok (.getfield 13, 3) := by decide +kernel
theorem dX5_drop_47 : decode cX5_drop 47 = .ok (.iload_n 2, 1) := by decide +kernel
theorem dX5_drop_48 : decode cX5_drop 48 = .ok (.aload_n 1, 1) := by decide +kernel
theorem dX5_drop_49 : decode cX5_drop 49 = .ok (.aastore, 1) := by decide +kernel
theorem dX5_drop_50 : decode cX5_drop 50 = .ok (.iinc 3 1, 3) := by decide +kernel
theorem dX5_drop_53 : decode cX5_drop 53 = .ok (.goto (-44), 3) := by decide +kernel
theorem dX5_drop_56 : decode cX5_drop 56 = .ok (.aload_n 0, 1) := by decide +kernel
theorem dX5_drop_57 : decode cX5_drop 57 = .ok (.iload_n 2, 1) := by decide +kernel
theorem dX5_drop_58 : decode cX5_drop 58 = .ok (.iconst 0, 1) := by decide +kernel
theorem dX5_drop_59 : decode cX5_drop 59 = .ok (.invokestatic 53, 3) := by decide +kernel
theorem dX5_drop_62 : decode cX5_drop 62 = .ok (.putfield 23, 3) := by decide +kernel
theorem dX5_drop_65 : decode cX5_drop 65 = .ok (.return_, 1) := by decide +kernel
theorem dX5_assign_0 : decode cX5_assign 0 = .ok (.aload_n 0, 1) := by decide +kernel
theorem dX5_assign_1 : decode cX5_assign 1 = .ok (.aload_n 1, 1) := by decide +kernel
theorem dX5_assign_2 : decode cX5_assign 2 = .ok (.iload_n 2, 1) := by decide +kernel
theorem dX5_assign_3 : decode cX5_assign 3 = .ok (.invokevirtual 59, 3) := by decide +kernel
theorem dX5_assign_6 : decode cX5_assign 6 = .ok (.invokevirtual 41, 3) := by decide +kernel
theorem dX5_assign_9 : decode cX5_assign 9 = .ok (.astore 4, 2) := by decide +kernel
theorem dX5_assign_11 : decode cX5_assign 11 = .ok (.aload_n 1, 1) := by decide +kernel
theorem dX5_assign_12 : decode cX5_assign 12 = .ok (.iload_n 2, 1) := by decide +kernel
theorem dX5_assign_13 : decode cX5_assign 13 = .ok (.aload_n 3, 1) := by decide +kernel
theorem dX5_assign_14 : decode cX5_assign 14 = .ok (.ifnonnull 7, 3) := by decide +kernel
theorem dX5_assign_17 : decode cX5_assign 17 = .ok (.iconst 0, 1) := by decide +kernel
theorem dX5_assign_18 : decode cX5_assign 18 = .ok (.goto 7, 3) := by decide +kernel
theorem dX5_assign_21 : decode cX5_assign 21 = .ok (.aload_n 3, 1) := by decide +kernel
theorem dX5_assign_22 : decode cX5_assign 22 = .ok (.getfield 38, 3) := by decide +kernel
theorem dX5_assign_25 : decode cX5_assign 25 = .ok (.invokevirtual 63, 3) := by decide +kernel
theorem dX5_assign_28 : decode cX5_assign 28 = .ok (.aload_n 3, 1) := by decide +kernel
theorem dX5_assign_29 : decode cX5_assign 29 = .ok (.ifnull 23, 3) := by decide +kernel
theorem dX5_assign_32 : decode cX5_assign 32 = .ok (.aload_n 3, 1) := by decide +kernel
theorem dX5_assign_33 : decode cX5_assign 33 = .ok (.dup, 1) := by decide +kernel
theorem dX5_assign_34 : decode cX5_assign 34 = .ok (.getfield 67, 3) := by decide +kernel
theorem dX5_assign_37 : decode cX5_assign 37 = .ok (.iconst 1, 1) := by decide +kernel
theorem dX5_assign_38 : decode cX5_assign 38 = .ok (.iadd, 1) := by decide +kernel
theorem dX5_assign_39 : decode cX5_assign 39 = .ok (.putfield 67, 3) := by decide +kernel
theorem dX5_assign_42 : decode cX5_assign 42 = .ok (.aload_n 1, 1) := by decide +kernel
theorem dX5_assign_43 : decode cX5_assign 43 = .ok (.dup, 1) := by decide +kernel
theorem dX5_assign_44 : decode cX5_assign 44 = .ok (.getfield 70, 3) := by decide +kernel
theorem dX5_assign_47 : decode cX5_assign 47 = .ok (.iconst 1, 1) := by decide +kernel
theorem dX5_assign_48 : decode cX5_assign 48 = .ok (.iadd, 1) := by decide +kernel
theorem dX5_assign_49 : decode cX5_assign 49 = .ok (.putfield 70, 3) := by decide +kernel
theorem dX5_assign_52 : decode cX5_assign 52 = .ok (.aload 4, 2) := by decide +kernel
theorem dX5_assign_54 : decode cX5_assign 54 = .ok (.ifnull 38, 3) := by decide +kernel
theorem dX5_assign_57 : decode cX5_assign 57 = .ok (.aload 4, 2) := by decide +kernel
theorem dX5_assign_59 : decode cX5_assign 59 = .ok (.dup, 1) := by decide +kernel
theorem dX5_assign_60 : decode cX5_assign 60 = .ok (.getfield 67, 3) := by decide +kernel
theorem dX5_assign_63 : decode cX5_assign 63 = .ok (.iconst 1, 1) := by decide +kernel
theorem dX5_assign_64 : decode cX5_assign 64 = .ok (.isub, 1) := by decide +kernel
theorem dX5_assign_65 : decode cX5_assign 65 = .ok (.putfield 67, 3) := by decide +kernel
theorem dX5_assign_68 : decode cX5_assign 68 = .ok (.aload_n 1, 1) := by decide +kernel
theorem dX5_assign_69 : decode cX5_assign 69 = .ok (.dup, 1) := by decide +kernel
theorem dX5_assign_70 : decode cX5_assign 70 = .ok (.getfield 70, 3) := by decide +kernel
theorem dX5_assign_73 : decode cX5_assign 73 = .ok (.iconst 1, 1) := by decide +kernel
theorem dX5_assign_74 : decode cX5_assign 74 = .ok (.isub, 1) := by decide +kernel
theorem dX5_assign_75 : decode cX5_assign 75 = .ok (.putfield 70, 3) := by decide +kernel
theorem dX5_assign_78 : decode cX5_assign 78 = .ok (.aload 4, 2) := by decide +kernel
theorem dX5_assign_80 : decode cX5_assign 80 = .ok (.getfield 67, 3) := by decide +kernel
theorem dX5_assign_83 : decode cX5_assign 83 = .ok (.ifCond .ne 9, 3) := by decide +kernel
theorem dX5_assign_86 : decode cX5_assign 86 = .ok (.aload_n 0, 1) := by decide +kernel
theorem dX5_assign_87 : decode cX5_assign 87 = .ok (.aload 4, 2) := by decide +kernel
theorem dX5_assign_89 : decode cX5_assign 89 = .ok (.invokevirtual 73, 3) := by decide +kernel
theorem dX5_assign_92 : decode cX5_assign 92 = .ok (.return_, 1) := by decide +kernel
theorem dX5_leadsTo_0 : decode cX5_leadsTo 0 = .ok (.iconst 0, 1) := by decide +kernel
theorem dX5_leadsTo_1 : decode cX5_leadsTo 1 = .ok (.istore_n 3, 1) := by decide +kernel
theorem dX5_leadsTo_2 : decode cX5_leadsTo 2 = .ok (.iload_n 3, 1) := by decide +kernel
theorem dX5_leadsTo_3 : decode cX5_leadsTo 3 = .ok (.aload_n 0, 1) := by decide +kernel
theorem dX5_leadsTo_4 : decode cX5_leadsTo 4 = .ok (.getfield 23, 3) := by decide +kernel
theorem dX5_leadsTo_7 : decode cX5_leadsTo 7 = .ok (.if_icmp .ge 27, 3) := by decide +kernel
theorem dX5_leadsTo_10 : decode cX5_leadsTo 10 = .ok (.aload_n 0, 1) := by decide +kernel
theorem dX5_leadsTo_11 : decode cX5_leadsTo 11 = .ok (.iload_n 3, 1) := by decide +kernel
theorem dX5_leadsTo_12 : decode cX5_leadsTo 12 = .ok (.invokevirtual 34, 3) := by decide +kernel
theorem dX5_leadsTo_15 : decode cX5_leadsTo 15 = .ok (.astore 4, 2) := by decide +kernel
theorem dX5_leadsTo_17 : decode cX5_leadsTo 17 = .ok (.aload 4, 2) := by decide +kernel
theorem dX5_leadsTo_19 : decode cX5_leadsTo 19 = .ok (.ifnull 9, 3) := by decide +kernel
theorem dX5_leadsTo_22 : decode cX5_leadsTo 22 = .ok (.aload 4, 2) := by decide +kernel
theorem dX5_leadsTo_24 : decode cX5_leadsTo 24 = .ok (.iconst 0, 1) := by decide +kernel
theorem dX5_leadsTo_25 : decode cX5_leadsTo 25 = .ok (.putfield 77, 3) := by decide +kernel
theorem dX5_leadsTo_28 : decode cX5_leadsTo 28 = .ok (.iinc 3 1, 3) := by decide +kernel
theorem dX5_leadsTo_31 : decode cX5_leadsTo 31 = .ok (.goto (-29), 3) := by decide +kernel
theorem dX5_leadsTo_34 : decode cX5_leadsTo 34 = .ok (.aload_n 0, 1) := by decide +kernel
theorem dX5_leadsTo_35 : decode cX5_leadsTo 35 = .ok (.aload_n 1, 1) := by decide +kernel
theorem dX5_leadsTo_36 : decode cX5_leadsTo 36 = .ok (.iconst 0, 1) := by decide +kernel
theorem dX5_leadsTo_37 : decode cX5_leadsTo 37 = .ok (.invokevirtual 80, 3) := by decide +kernel
theorem dX5_leadsTo_40 : decode cX5_leadsTo 40 = .ok (.istore_n 3, 1) := by decide +kernel
theorem dX5_leadsTo_41 : decode cX5_leadsTo 41 = .ok (.iconst 0, 1) := by decide +kernel
theorem dX5_leadsTo_42 : decode cX5_leadsTo 42 = .ok (.istore 4, 2) := by decide +kernel
theorem dX5_leadsTo_44 : decode cX5_leadsTo 44 = .ok (.iload 4, 2) := by decide +kernel
theorem dX5_leadsTo_46 : decode cX5_leadsTo 46 = .ok (.iload_n 3, 1) := by decide +kernel
theorem dX5_leadsTo_47 : decode cX5_leadsTo 47 = .ok (.if_icmp .ge 74, 3) := by decide +kernel
theorem dX5_leadsTo_50 : decode cX5_leadsTo 50 = .ok (.iload 4, 2) := by decide +kernel
theorem dX5_leadsTo_52 : decode cX5_leadsTo 52 = .ok (.sipush 129, 3) := by decide +kernel
theorem dX5_leadsTo_55 : decode cX5_leadsTo 55 = .ok (.if_icmp .ge 66, 3) := by decide +kernel
theorem dX5_leadsTo_58 : decode cX5_leadsTo 58 = .ok (.aload_n 0, 1) := by decide +kernel
theorem dX5_leadsTo_59 : decode cX5_leadsTo 59 = .ok (.getfield 17, 3) := by decide +kernel
theorem dX5_leadsTo_62 : decode cX5_leadsTo 62 = .ok (.iload 4, 2) := by decide +kernel
theorem dX5_leadsTo_64 : decode cX5_leadsTo 64 = .ok (.aaload, 1) := by decide +kernel
theorem dX5_leadsTo_65 : decode cX5_leadsTo 65 = .ok (.astore 5, 2) := by decide +kernel
theorem dX5_leadsTo_67 : decode cX5_leadsTo 67 = .ok (.iconst 1, 1) := by decide +kernel
theorem dX5_leadsTo_68 : decode cX5_leadsTo 68 = .ok (.istore 6, 2) := by decide +kernel
theorem dX5_leadsTo_70 : decode cX5_leadsTo 70 = .ok (.aload 5, 2) := by decide +kernel
theorem dX5_leadsTo_72 : decode cX5_leadsTo 72 = .ok (.ifnull 43, 3) := by decide +kernel
theorem dX5_leadsTo_75 : decode cX5_leadsTo 75 = .ok (.iload 6, 2) := by decide +kernel
theorem dX5_leadsTo_77 : decode cX5_leadsTo 77 = .ok (.bipush 99, 2) := by decide +kernel
theorem dX5_leadsTo_79 : decode cX5_leadsTo 79 = .ok (.if_icmp .gt 36, 3) := by decide +kernel
theorem dX5_leadsTo_82 : decode cX5_leadsTo 82 = .ok (.aload 5, 2) := by decide +kernel
theorem dX5_leadsTo_84 : decode cX5_leadsTo 84 = .ok (.iload 6, 2) := by decide +kernel
theorem dX5_leadsTo_86 : decode cX5_leadsTo 86 = .ok (.invokevirtual 59, 3) := by decide +kernel
theorem dX5_leadsTo_89 : decode cX5_leadsTo 89 = .ok (.ifCond .eq 20, 3) := by decide +kernel
theorem dX5_leadsTo_92 : decode cX5_leadsTo 92 = .ok (.aload_n 0, 1) := by decide +kernel
theorem dX5_leadsTo_93 : decode cX5_leadsTo 93 = .ok (.aload_n 0, 1) := by decide +kernel
theorem dX5_leadsTo_94 : decode cX5_leadsTo 94 = .ok (.aload 5, 2) := by decide +kernel
theorem dX5_leadsTo_96 : decode cX5_leadsTo 96 = .ok (.iload 6, 2) := by decide +kernel
theorem dX5_leadsTo_98 : decode cX5_leadsTo 98 = .ok (.invokevirtual 59, 3) := by decide +kernel
theorem dX5_leadsTo_101 : decode cX5_leadsTo 101 = .ok (.invokevirtual 41, 3) := by decide +kernel
theorem dX5_leadsTo_104 : decode cX5_leadsTo 104 = .ok (.iload_n 3, 1) := by decide +kernel
theorem dX5_leadsTo_105 : decode cX5_leadsTo 105 = .ok (.invokevirtual 80, 3) := by decide +kernel
theorem dX5_leadsTo_108 : decode cX5_leadsTo 108 = .ok (.istore_n 3, 1) := by decide +kernel
theorem dX5_leadsTo_109 : decode cX5_leadsTo 109 = .ok (.iinc 6 1, 3) := by decide +kernel
theorem dX5_leadsTo_112 : decode cX5_leadsTo 112 = .ok (.goto (-42), 3) := by decide +kernel
theorem dX5_leadsTo_115 : decode cX5_leadsTo 115 = .ok (.iinc 4 1, 3) := by decide +kernel
theorem dX5_leadsTo_118 : decode cX5_leadsTo 118 = .ok (.goto (-74), 3) := by decide +kernel
theorem dX5_leadsTo_121 : decode cX5_leadsTo 121 = .ok (.aload_n 2, 1) := by decide +kernel
theorem dX5_leadsTo_122 : decode cX5_leadsTo 122 = .ok (.getfield 77, 3) := by decide +kernel
theorem dX5_leadsTo_125 : decode cX5_leadsTo 125 = .ok (.ireturn, 1) := by decide +kernel
theorem dX5_reach_0 : decode cX5_reach 0 = .ok (.aload_n 1, 1) := by decide +kernel
theorem dX5_reach_1 : decode cX5_reach 1 = .ok (.ifnull 28, 3) := by decide +kernel
theorem dX5_reach_4 : decode cX5_reach 4 = .ok (.aload_n 1, 1) := by decide +kernel
theorem dX5_reach_5 : decode cX5_reach 5 = .ok (.getfield 44, 3) := by decide +kernel
theorem dX5_reach_8 : decode cX5_reach 8 = .ok (.ifCond .eq 21, 3) := by decide +kernel
theorem dX5_reach_11 : decode cX5_reach 11 = .ok (.aload_n 1, 1) := by decide +kernel
theorem dX5_reach_12 : decode cX5_reach 12 = .ok (.getfield 77, 3) := by decide +kernel
theorem dX5_reach_15 : decode cX5_reach 15 = .ok (.ifCond .ne 14, 3) := by decide +kernel
theorem dX5_reach_18 : decode cX5_reach 18 = .ok (.iload_n 2, 1) := by decide +kernel
theorem dX5_reach_19 : decode cX5_reach 19 = .ok (.ifCond .lt 10, 3) := by decide +kernel
theorem dX5_reach_22 : decode cX5_reach 22 = .ok (.iload_n 2, 1) := by decide +kernel
theorem dX5_reach_23 : decode cX5_reach 23 = .ok (.sipush 129, 3) := by decide +kernel
theorem dX5_reach_26 : decode cX5_reach 26 = .ok (.if_icmp .lt 5, 3) := by decide +kernel
theorem dX5_reach_29 : decode cX5_reach 29 = .ok (.iload_n 2, 1) := by decide +kernel
theorem dX5_reach_30 : decode cX5_reach 30 = .ok (.ireturn, 1) := by decide +kernel
theorem dX5_reach_31 : decode cX5_reach 31 = .ok (.aload_n 1, 1) := by decide +kernel
theorem dX5_reach_32 : decode cX5_reach 32 = .ok (.iconst 1, 1) := by decide +kernel
theorem dX5_reach_33 : decode cX5_reach 33 = .ok (.putfield 77, 3) := by decide +kernel
theorem dX5_reach_36 : decode cX5_reach 36 = .ok (.aload_n 0, 1) := by decide +kernel
theorem dX5_reach_37 : decode cX5_reach 37 = .ok (.getfield 17, 3) := by decide +kernel
theorem dX5_reach_40 : decode cX5_reach 40 = .ok (.iload_n 2, 1) := by decide +kernel
theorem dX5_reach_41 : decode cX5_reach 41 = .ok (.aload_n 1, 1) := by decide +kernel
theorem dX5_reach_42 : decode cX5_reach 42 = .ok (.aastore, 1) := by decide +kernel
theorem dX5_reach_43 : decode cX5_reach 43 = .ok (.iload_n 2, 1) := by decide +kernel
theorem dX5_reach_44 : decode cX5_reach 44 = .ok (.iconst 1, 1) := by decide +kernel
theorem dX5_reach_45 : decode cX5_reach 45 = .ok (.iadd, 1) := by decide +kernel
theorem dX5_reach_46 : decode cX5_reach 46 = .ok (.ireturn, 1) := by decide +kernel
theorem dX5_restart_0 : decode cX5_restart 0 = .ok (.aload_n 0, 1) := by decide +kernel
theorem dX5_restart_1 : decode cX5_restart 1 = .ok (.invokevirtual 20, 3) := by decide +kernel
theorem dX5_restart_4 : decode cX5_restart 4 = .ok (.iconst 0, 1) := by decide +kernel
theorem dX5_restart_5 : decode cX5_restart 5 = .ok (.istore_n 2, 1) := by decide +kernel
theorem dX5_restart_6 : decode cX5_restart 6 = .ok (.iload_n 2, 1) := by decide +kernel
theorem dX5_restart_7 : decode cX5_restart 7 = .ok (.aload_n 0, 1) := by decide +kernel
theorem dX5_restart_8 : decode cX5_restart 8 = .ok (.getfield 23, 3) := by decide +kernel
theorem dX5_restart_11 : decode cX5_restart 11 = .ok (.if_icmp .ge 39, 3) := by decide +kernel
theorem dX5_restart_14 : decode cX5_restart 14 = .ok (.iload_n 2, 1) := by decide +kernel
theorem dX5_restart_15 : decode cX5_restart 15 = .ok (.sipush 129, 3) := by decide +kernel
theorem dX5_restart_18 : decode cX5_restart 18 = .ok (.if_icmp .ge 32, 3) := by decide +kernel
theorem dX5_restart_21 : decode cX5_restart 21 = .ok (.aload_n 0, 1) := by decide +kernel
theorem dX5_restart_22 : decode cX5_restart 22 = .ok (.iload_n 2, 1) := by decide +kernel
theorem dX5_restart_23 : decode cX5_restart 23 = .ok (.invokevirtual 34, 3) := by decide +kernel
theorem dX5_restart_26 : decode cX5_restart 26 = .ok (.astore_n 3, 1) := by decide +kernel
theorem dX5_restart_27 : decode cX5_restart 27 = .ok (.aload_n 3, 1) := by decide +kernel
theorem dX5_restart_28 : decode cX5_restart 28 = .ok (.ifnull 16, 3) := by decide +kernel
theorem dX5_restart_31 : decode cX5_restart 31 = .ok (.aload_n 3, 1) := by decide +kernel
theorem dX5_restart_32 : decode cX5_restart 32 = .ok (.getfield 44, 3) := by decide +kernel
theorem dX5_restart_35 : decode cX5_restart 35 = .ok (.ifCond .eq 9, 3) := by decide +kernel
theorem dX5_restart_38 : decode cX5_restart 38 = .ok (.aload_n 0, 1) := by decide +kernel
theorem dX5_restart_39 : decode cX5_restart 39 = .ok (.aload_n 3, 1) := by decide +kernel
theorem dX5_restart_40 : decode cX5_restart 40 = .ok (.aload_n 1, 1) := by decide +kernel
theorem dX5_restart_41 : decode cX5_restart 41 = .ok (.invokevirtual 84, 3) := by decide +kernel
theorem dX5_restart_44 : decode cX5_restart 44 = .ok (.iinc 2 1, 3) := by decide +kernel
theorem dX5_restart_47 : decode cX5_restart 47 = .ok (.goto (-41), 3) := by decide +kernel
theorem dX5_restart_50 : decode cX5_restart 50 = .ok (.iconst 0, 1) := by decide +kernel
theorem dX5_restart_51 : decode cX5_restart 51 = .ok (.istore_n 2, 1) := by decide +kernel
theorem dX5_restart_52 : decode cX5_restart 52 = .ok (.iload_n 2, 1) := by decide +kernel
theorem dX5_restart_53 : decode cX5_restart 53 = .ok (.aload_n 0, 1) := by decide +kernel
theorem dX5_restart_54 : decode cX5_restart 54 = .ok (.getfield 23, 3) := by decide +kernel
theorem dX5_restart_57 : decode cX5_restart 57 = .ok (.if_icmp .ge 32, 3) := by decide +kernel
theorem dX5_restart_60 : decode cX5_restart 60 = .ok (.aload_n 0, 1) := by decide +kernel
theorem dX5_restart_61 : decode cX5_restart 61 = .ok (.iload_n 2, 1) := by decide +kernel
theorem dX5_restart_62 : decode cX5_restart 62 = .ok (.invokevirtual 34, 3) := by decide +kernel
theorem dX5_restart_65 : decode cX5_restart 65 = .ok (.astore_n 3, 1) := by decide +kernel
theorem dX5_restart_66 : decode cX5_restart 66 = .ok (.aload_n 3, 1) := by decide +kernel
theorem dX5_restart_67 : decode cX5_restart 67 = .ok (.ifnull 16, 3) := by decide +kernel
theorem dX5_restart_70 : decode cX5_restart 70 = .ok (.aload_n 3, 1) := by decide +kernel
theorem dX5_restart_71 : decode cX5_restart 71 = .ok (.getfield 44, 3) := by decide +kernel
theorem dX5_restart_74 : decode cX5_restart 74 = .ok (.ifCond .ne 9, 3) := by decide +kernel
theorem dX5_restart_77 : decode cX5_restart 77 = .ok (.aload_n 0, 1) := by decide +kernel
theorem dX5_restart_78 : decode cX5_restart 78 = .ok (.aload_n 3, 1) := by decide +kernel
theorem dX5_restart_79 : decode cX5_restart 79 = .ok (.aload_n 1, 1) := by decide +kernel
theorem dX5_restart_80 : decode cX5_restart 80 = .ok (.invokevirtual 88, 3) := by decide +kernel
theorem dX5_restart_83 : decode cX5_restart 83 = .ok (.iinc 2 1, 3) := by decide +kernel
theorem dX5_restart_86 : decode cX5_restart 86 = .ok (.goto (-34), 3) := by decide +kernel
theorem dX5_restart_89 : decode cX5_restart 89 = .ok (.iconst 0, 1) := by decide +kernel
theorem dX5_restart_90 : decode cX5_restart 90 = .ok (.istore_n 2, 1) := by decide +kernel
theorem dX5_restart_91 : decode cX5_restart 91 = .ok (.iload_n 2, 1) := by decide +kernel
theorem dX5_restart_92 : decode cX5_restart 92 = .ok (.sipush 128, 3) := by decide +kernel
theorem dX5_restart_95 : decode cX5_restart 95 = .ok (.if_icmp .ge 46, 3) := by decide +kernel
theorem dX5_restart_98 : decode cX5_restart 98 = .ok (.aload_n 1, 1) := by decide +kernel
theorem dX5_restart_99 : decode cX5_restart 99 = .ok (.iload_n 2, 1) := by decide +kernel
theorem dX5_restart_100 : decode cX5_restart 100 = .ok (.invokevirtual 91, 3) := by decide +kernel
theorem dX5_restart_103 : decode cX5_restart 103 = .ok (.astore_n 3, 1) := by decide +kernel
theorem dX5_restart_104 : decode cX5_restart 104 = .ok (.aload_n 3, 1) := by decide +kernel
theorem dX5_restart_105 : decode cX5_restart 105 = .ok (.invokevirtual 97, 3) := by decide +kernel
theorem dX5_restart_108 : decode cX5_restart 108 = .ok (.ifCond .eq 27, 3) := by decide +kernel
theorem dX5_restart_111 : decode cX5_restart 111 = .ok (.aload_n 0, 1) := by decide +kernel
theorem dX5_restart_112 : decode cX5_restart 112 = .ok (.aload_n 0, 1) := by decide +kernel
theorem dX5_restart_113 : decode cX5_restart 113 = .ok (.getfield 27, 3) := by decide +kernel
theorem dX5_restart_116 : decode cX5_restart 116 = .ok (.aload_n 3, 1) := by decide +kernel
theorem dX5_restart_117 : decode cX5_restart 117 = .ok (.getfield 103, 3) := by decide +kernel
theorem dX5_restart_120 : decode cX5_restart 120 = .ok (.aload_n 3, 1) := by decide +kernel
theorem dX5_restart_121 : decode cX5_restart 121 = .ok (.getfield 104, 3) := by decide +kernel
theorem dX5_restart_124 : decode cX5_restart 124 = .ok (.invokestatic 53, 3) := by decide +kernel
theorem dX5_restart_127 : decode cX5_restart 127 = .ok (.iconst 1, 1) := by decide +kernel
theorem dX5_restart_128 : decode cX5_restart 128 = .ok (.iadd, 1) := by decide +kernel
theorem dX5_restart_129 : decode cX5_restart 129 = .ok (.invokestatic 53, 3) := by decide +kernel
theorem dX5_restart_132 : decode cX5_restart 132 = .ok (.putfield 27, 3) := by decide +kernel
theorem dX5_restart_135 : decode cX5_restart 135 = .ok (.iinc 2 1, 3) := by decide +kernel
theorem dX5_restart_138 : decode cX5_restart 138 = .ok (.goto (-47), 3) := by decide +kernel
theorem dX5_restart_141 : decode cX5_restart 141 = .ok (.return_, 1) := by decide +kernel
theorem dX5_readNames_0 : decode cX5_readNames 0 = .ok (.iconst 0, 1) := by decide +kernel
theorem dX5_readNames_1 : decode cX5_readNames 1 = .ok (.istore_n 3, 1) := by decide +kernel
theorem dX5_readNames_2 : decode cX5_readNames 2 = .ok (.iload_n 3, 1) := by decide +kernel
theorem dX5_readNames_3 : decode cX5_readNames 3 = .ok (.sipush 128, 3) := by decide +kernel
theorem dX5_readNames_6 : decode cX5_readNames 6 = .ok (.if_icmp .ge 119, 3) := by decide +kernel
theorem dX5_readNames_9 : decode cX5_readNames 9 = .ok (.aload_n 2, 1) := by decide +kernel
theorem dX5_readNames_10 : decode cX5_readNames 10 = .ok (.iload_n 3, 1) := by decide +kernel
theorem dX5_readNames_11 : decode cX5_readNames 11 = .ok (.invokevirtual 91, 3) := by decide +kernel
theorem dX5_readNames_14 : decode cX5_readNames 14 = .ok (.astore 4, 2) := by decide +kernel
theorem dX5_readNames_16 : decode cX5_readNames 16 = .ok (.aload 4, 2) := by decide +kernel
theorem dX5_readNames_18 : decode cX5_readNames 18 = .ok (.iconst 2, 1) := by decide +kernel
theorem dX5_readNames_19 : decode cX5_readNames 19 = .ok (.aload_n 1, 1) := by decide +kernel
theorem dX5_readNames_20 : decode cX5_readNames 20 = .ok (.getfield 38, 3) := by decide +kernel
theorem dX5_readNames_23 : decode cX5_readNames 23 = .ok (.invokevirtual 107, 3) := by decide +kernel
theorem dX5_readNames_26 : decode cX5_readNames 26 = .ok (.ifCond .eq 93, 3) := by decide +kernel
theorem dX5_readNames_29 : decode cX5_readNames 29 = .ok (.aload_n 1, 1) := by decide +kernel
theorem dX5_readNames_30 : decode cX5_readNames 30 = .ok (.aload_n 1, 1) := by decide +kernel
theorem dX5_readNames_31 : decode cX5_readNames 31 = .ok (.getfield 111, 3) := by decide +kernel
theorem dX5_readNames_34 : decode cX5_readNames 34 = .ok (.aload 4, 2) := by decide +kernel
theorem dX5_readNames_36 : decode cX5_readNames 36 = .ok (.getfield 114, 3) := by decide +kernel
theorem dX5_readNames_39 : decode cX5_readNames 39 = .ok (.invokestatic 53, 3) := by decide +kernel
theorem dX5_readNames_42 : decode cX5_readNames 42 = .ok (.putfield 111, 3) := by decide +kernel
theorem dX5_readNames_45 : decode cX5_readNames 45 = .ok (.aload 4, 2) := by decide +kernel
theorem dX5_readNames_47 : decode cX5_readNames 47 = .ok (.getfield 104, 3) := by decide +kernel
theorem dX5_readNames_50 : decode cX5_readNames 50 = .ok (.ifCond .eq 69, 3) := by decide +kernel
theorem dX5_readNames_53 : decode cX5_readNames 53 = .ok (.aload_n 2, 1) := by decide +kernel
theorem dX5_readNames_54 : decode cX5_readNames 54 = .ok (.iconst 2, 1) := by decide +kernel
theorem dX5_readNames_55 : decode cX5_readNames 55 = .ok (.aload_n 1, 1) := by decide +kernel
theorem dX5_readNames_56 : decode cX5_readNames 56 = .ok (.getfield 38, 3) := by decide +kernel
theorem dX5_readNames_59 : decode cX5_readNames 59 = .ok (.aload 4, 2) := by decide +kernel
theorem dX5_readNames_61 : decode cX5_readNames 61 = .ok (.getfield 115, 3) := by decide +kernel
theorem dX5_readNames_64 : decode cX5_readNames 64 = .ok (.ldc 118, 2) := by decide +kernel
theorem dX5_readNames_66 : decode cX5_readNames 66 = .ok (.invokevirtual 119, 3) := by decide +kernel
theorem dX5_readNames_69 : decode cX5_readNames 69 = .ok (.aload 4, 2) := by decide +kernel
theorem dX5_readNames_71 : decode cX5_readNames 71 = .ok (.if_acmp .ne 48, 3) := by decide +kernel
theorem dX5_readNames_74 : decode cX5_readNames 74 = .ok (.aload_n 0, 1) := by decide +kernel
theorem dX5_readNames_75 : decode cX5_readNames 75 = .ok (.aload 4, 2) := by decide +kernel
theorem dX5_readNames_77 : decode cX5_readNames 77 = .ok (.getfield 104, 3) := by decide +kernel
theorem dX5_readNames_80 : decode cX5_readNames 80 = .ok (.invokevirtual 41, 3) := by decide +kernel
theorem dX5_readNames_83 : decode cX5_readNames 83 = .ok (.astore 5, 2) := by decide +kernel
theorem dX5_readNames_85 : decode cX5_readNames 85 = .ok (.aload_n 0, 1) := by decide +kernel
theorem dX5_readNames_86 : decode cX5_readNames 86 = .ok (.aload_n 1, 1) := by decide +kernel
theorem dX5_readNames_87 : decode cX5_readNames 87 = .ok (.aload 4, 2) := by decide +kernel
theorem dX5_readNames_89 : decode cX5_readNames 89 = .ok (.getfield 115, 3) := by decide +kernel
theorem dX5_readNames_92 : decode cX5_readNames 92 = .ok (.aload 5, 2) := by decide +kernel
theorem dX5_readNames_94 : decode cX5_readNames 94 = .ok (.ifnonnull 20, 3) := by decide +kernel
theorem dX5_readNames_97 : decode cX5_readNames 97 = .ok (.aload_n 0, 1) := by decide +kernel
theorem dX5_readNames_98 : decode cX5_readNames 98 = .ok (.aload 4, 2) := by decide +kernel
theorem dX5_readNames_100 : decode cX5_readNames 100 = .ok (.getfield 104, 3) := by decide +kernel
theorem dX5_readNames_103 : decode cX5_readNames 103 = .ok (.aload 4, 2) := by decide +kernel
theorem dX5_readNames_105 : decode cX5_readNames 105 = .ok (.getfield 123, 3) := by decide +kernel
theorem dX5_readNames_108 : decode cX5_readNames 108 = .ok (.invokevirtual 30, 3) := by decide +kernel
theorem dX5_readNames_111 : decode cX5_readNames 111 = .ok (.goto 5, 3) := by decide +kernel
theorem dX5_readNames_114 : decode cX5_readNames 114 = .ok (.aload 5, 2) := by decide +kernel
theorem dX5_readNames_116 : decode cX5_readNames 116 = .ok (.invokevirtual 126, 3) := by decide +kernel
theorem dX5_readNames_119 : decode cX5_readNames 119 = .ok (.iinc 3 1, 3) := by decide +kernel
theorem dX5_readNames_122 : decode cX5_readNames 122 = .ok (.goto (-120), 3) := by decide +kernel
theorem dX5_readNames_125 : decode cX5_readNames 125 = .ok (.return_, 1) := by decide +kernel
theorem dX5_readContent_0 : decode cX5_readContent 0 = .ok (.iconst 0, 1) := by decide +kernel
theorem dX5_readContent_1 : decode cX5_readContent 1 = .ok (.istore_n 3, 1) := by decide +kernel
theorem dX5_readContent_2 : decode cX5_readContent 2 = .ok (.iconst 0, 1) := by decide +kernel
theorem dX5_readContent_3 : decode cX5_readContent 3 = .ok (.istore 4, 2) := by decide +kernel
theorem dX5_readContent_5 : decode cX5_readContent 5 = .ok (.iload 4, 2) := by decide +kernel
theorem dX5_readContent_7 : decode cX5_readContent 7 = .ok (.sipush 128, 3) := by decide +kernel
theorem dX5_readContent_10 : decode cX5_readContent 10 = .ok (.if_icmp .ge 38, 3) := by decide +kernel
theorem dX5_readContent_13 : decode cX5_readContent 13 = .ok (.aload_n 2, 1) := by decide +kernel
theorem dX5_readContent_14 : decode cX5_readContent 14 = .ok (.aload_n 1, 1) := by decide +kernel
theorem dX5_readContent_15 : decode cX5_readContent 15 = .ok (.getfield 38, 3) := by decide +kernel
theorem dX5_readContent_18 : decode cX5_readContent 18 = .ok (.iload_n 3, 1) := by decide +kernel
theorem dX5_readContent_19 : decode cX5_readContent 19 = .ok (.invokevirtual 130, 3) := by decide +kernel
theorem dX5_readContent_22 : decode cX5_readContent 22 = .ok (.astore 5, 2) := by decide +kernel
theorem dX5_readContent_24 : decode cX5_readContent 24 = .ok (.aload 5, 2) := by decide +kernel
theorem dX5_readContent_26 : decode cX5_readContent 26 = .ok (.ifnonnull 4, 3) := by decide +kernel
theorem dX5_readContent_29 : decode cX5_readContent 29 = .ok (.return_, 1) := by decide +kernel
theorem dX5_readContent_30 : decode cX5_readContent 30 = .ok (.aload_n 1, 1) := by decide +kernel
theorem dX5_readContent_31 : decode cX5_readContent 31 = .ok (.aload 5, 2) := by decide +kernel
theorem dX5_readContent_33 : decode cX5_readContent 33 = .ok (.invokevirtual 134, 3) := by decide +kernel
theorem dX5_readContent_36 : decode cX5_readContent 36 = .ok (.aload 5, 2) := by decide +kernel
theorem dX5_readContent_38 : decode cX5_readContent 38 = .ok (.getfield 114, 3) := by decide +kernel
theorem dX5_readContent_41 : decode cX5_readContent 41 = .ok (.istore_n 3, 1) := by decide +kernel
theorem dX5_readContent_42 : decode cX5_readContent 42 = .ok (.iinc 4 1, 3) := by decide +kernel
theorem dX5_readContent_45 : decode cX5_readContent 45 = .ok (.goto (-40), 3) := by decide +kernel
theorem dX5_readContent_48 : decode cX5_readContent 48 = .ok (.return_, 1) := by decide +kernel
theorem dJ9_floorMod_0 : decode cJ9_floorMod 0 = .ok (.iload_n 0, 1) := by decide +kernel
theorem dJ9_floorMod_1 : decode cJ9_floorMod 1 = .ok (.iload_n 1, 1) := by decide +kernel
theorem dJ9_floorMod_2 : decode cJ9_floorMod 2 = .ok (.irem, 1) := by decide +kernel
theorem dJ9_floorMod_3 : decode cJ9_floorMod 3 = .ok (.istore_n 2, 1) := by decide +kernel
theorem dJ9_floorMod_4 : decode cJ9_floorMod 4 = .ok (.iload_n 0, 1) := by decide +kernel
theorem dJ9_floorMod_5 : decode cJ9_floorMod 5 = .ok (.iload_n 1, 1) := by decide +kernel
theorem dJ9_floorMod_6 : decode cJ9_floorMod 6 = .ok (.ixor, 1) := by decide +kernel
theorem dJ9_floorMod_7 : decode cJ9_floorMod 7 = .ok (.ifCond .ge 11, 3) := by decide +kernel
theorem dJ9_floorMod_10 : decode cJ9_floorMod 10 = .ok (.iload_n 2, 1) := by decide +kernel
theorem dJ9_floorMod_11 : decode cJ9_floorMod 11 = .ok (.ifCond .eq 7, 3) := by decide +kernel
theorem dJ9_floorMod_14 : decode cJ9_floorMod 14 = .ok (.iload_n 2, 1) := by decide +kernel
theorem dJ9_floorMod_15 : decode cJ9_floorMod 15 = .ok (.iload_n 1, 1) := by decide +kernel
theorem dJ9_floorMod_16 : decode cJ9_floorMod 16 = .ok (.iadd, 1) := by decide +kernel
theorem dJ9_floorMod_17 : decode cJ9_floorMod 17 = .ok (.ireturn, 1) := by decide +kernel
theorem dJ9_floorMod_18 : decode cJ9_floorMod 18 = .ok (.iload_n 2, 1) := by decide +kernel
theorem dJ9_floorMod_19 : decode cJ9_floorMod 19 = .ok (.ireturn, 1) := by decide +kernel
theorem dJ9_max_0 : decode cJ9_max 0 = .ok (.iload_n 0, 1) := by decide +kernel
theorem dJ9_max_1 : decode cJ9_max 1 = .ok (.iload_n 1, 1) := by decide +kernel
theorem dJ9_max_2 : decode cJ9_max 2 = .ok (.if_icmp .lt 7, 3) := by decide +kernel
theorem dJ9_max_5 : decode cJ9_max 5 = .ok (.iload_n 0, 1) := by decide +kernel
theorem dJ9_max_6 : decode cJ9_max 6 = .ok (.goto 4, 3) := by decide +kernel
theorem dJ9_max_9 : decode cJ9_max 9 = .ok (.iload_n 1, 1) := by decide +kernel
theorem dJ9_max_10 : decode cJ9_max 10 = .ok (.ireturn, 1) := by decide +kernel
