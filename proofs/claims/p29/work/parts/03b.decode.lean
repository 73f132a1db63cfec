theorem dX6_init_0 : decode cX6_init 0 = .ok (.aload_n 0, 1) := by decide +kernel
theorem dX6_init_1 : decode cX6_init 1 = .ok (.invokespecial 1, 3) := by decide +kernel
theorem dX6_init_4 : decode cX6_init 4 = .ok (.aload_n 0, 1) := by decide +kernel
theorem dX6_init_5 : decode cX6_init 5 = .ok (.new 7, 3) := by decide +kernel
theorem dX6_init_8 : decode cX6_init 8 = .ok (.dup, 1) := by decide +kernel
theorem dX6_init_9 : decode cX6_init 9 = .ok (.invokespecial 9, 3) := by decide +kernel
theorem dX6_init_12 : decode cX6_init 12 = .ok (.putfield 10, 3) := by decide +kernel
theorem dX6_init_15 : decode cX6_init 15 = .ok (.aload_n 0, 1) := by decide +kernel
theorem dX6_init_16 : decode cX6_init 16 = .ok (.new 16, 3) := by decide +kernel
theorem dX6_init_19 : decode cX6_init 19 = .ok (.dup, 1) := by decide +kernel
theorem dX6_init_20 : decode cX6_init 20 = .ok (.aload_n 0, 1) := by decide +kernel
theorem dX6_init_21 : decode cX6_init 21 = .ok (.getfield 10, 3) := by decide +kernel
theorem dX6_init_24 : decode cX6_init 24 = .ok (.invokespecial 18, 3) := by decide +kernel
theorem dX6_init_27 : decode cX6_init 27 = .ok (.putfield 21, 3) := by decide +kernel
theorem dX6_init_30 : decode cX6_init 30 = .ok (.aload_n 0, 1) := by decide +kernel
theorem dX6_init_31 : decode cX6_init 31 = .ok (.new 25, 3) := by decide +kernel
theorem dX6_init_34 : decode cX6_init 34 = .ok (.dup, 1) := by decide +kernel
theorem dX6_init_35 : decode cX6_init 35 = .ok (.invokespecial 27, 3) := by decide +kernel
theorem dX6_init_38 : decode cX6_init 38 = .ok (.putfield 28, 3) := by decide +kernel
theorem dX6_init_41 : decode cX6_init 41 = .ok (.aload_n 0, 1) := by decide +kernel
theorem dX6_init_42 : decode cX6_init 42 = .ok (.new 32, 3) := by decide +kernel
theorem dX6_init_45 : decode cX6_init 45 = .ok (.dup, 1) := by decide +kernel
theorem dX6_init_46 : decode cX6_init 46 = .ok (.aload_n 0, 1) := by decide +kernel
theorem dX6_init_47 : decode cX6_init 47 = .ok (.getfield 10, 3) := by decide +kernel
theorem dX6_init_50 : decode cX6_init 50 = .ok (.aload_n 0, 1) := by decide +kernel
theorem dX6_init_51 : decode cX6_init 51 = .ok (.getfield 28, 3) := by decide +kernel
theorem dX6_init_54 : decode cX6_init 54 = .ok (.invokespecial 34, 3) := by decide +kernel
theorem dX6_init_57 : decode cX6_init 57 = .ok (.putfield 37, 3) := by decide +kernel
theorem dX6_init_60 : decode cX6_init 60 = .ok (.aload_n 0, 1) := by decide +kernel
theorem dX6_init_61 : decode cX6_init 61 = .ok (.new 41, 3) := by decide +kernel
theorem dX6_init_64 : decode cX6_init 64 = .ok (.dup, 1) := by decide +kernel
theorem dX6_init_65 : decode cX6_init 65 = .ok (.invokespecial 43, 3) := by decide +kernel
theorem dX6_init_68 : decode cX6_init 68 = .ok (.putfield 44, 3) := by decide +kernel
theorem dX6_init_71 : decode cX6_init 71 = .ok (.return_, 1) := by decide +kernel
theorem dX6_create_0 : decode cX6_create 0 = .ok (.aload_n 0, 1) := by decide +kernel
theorem dX6_create_1 : decode cX6_create 1 = .ok (.iload_n 1, 1) := by decide +kernel
theorem dX6_create_2 : decode cX6_create 2 = .ok (.invokevirtual 48, 3) := by decide +kernel
theorem dX6_create_5 : decode cX6_create 5 = .ok (.astore_n 3, 1) := by decide +kernel
theorem dX6_create_6 : decode cX6_create 6 = .ok (.aload_n 0, 1) := by decide +kernel
theorem dX6_create_7 : decode cX6_create 7 = .ok (.iload_n 2, 1) := by decide +kernel
theorem dX6_create_8 : decode cX6_create 8 = .ok (.invokevirtual 52, 3) := by decide +kernel
theorem dX6_create_11 : decode cX6_create 11 = .ok (.aload_n 0, 1) := by decide +kernel
theorem dX6_create_12 : decode cX6_create 12 = .ok (.aload_n 3, 1) := by decide +kernel
theorem dX6_create_13 : decode cX6_create 13 = .ok (.iload_n 2, 1) := by decide +kernel
theorem dX6_create_14 : decode cX6_create 14 = .ok (.invokevirtual 56, 3) := by decide +kernel
theorem dX6_create_17 : decode cX6_create 17 = .ok (.aload_n 0, 1) := by decide +kernel
theorem dX6_create_18 : decode cX6_create 18 = .ok (.iconst 2, 1) := by decide +kernel
theorem dX6_create_19 : decode cX6_create 19 = .ok (.iconst 3, 1) := by decide +kernel
theorem dX6_create_20 : decode cX6_create 20 = .ok (.invokevirtual 60, 3) := by decide +kernel
theorem dX6_create_23 : decode cX6_create 23 = .ok (.aload_n 0, 1) := by decide +kernel
theorem dX6_create_24 : decode cX6_create 24 = .ok (.getfield 28, 3) := by decide +kernel
theorem dX6_create_27 : decode cX6_create 27 = .ok (.getfield 64, 3) := by decide +kernel
theorem dX6_create_30 : decode cX6_create 30 = .ok (.istore 4, 2) := by decide +kernel
theorem dX6_create_32 : decode cX6_create 32 = .ok (.aload_n 0, 1) := by decide +kernel
theorem dX6_create_33 : decode cX6_create 33 = .ok (.getfield 44, 3) := by decide +kernel
theorem dX6_create_36 : decode cX6_create 36 = .ok (.iload 4, 2) := by decide +kernel
theorem dX6_create_38 : decode cX6_create 38 = .ok (.iconst 1, 1) := by decide +kernel
theorem dX6_create_39 : decode cX6_create 39 = .ok (.iconst 0, 1) := by decide +kernel
theorem dX6_create_40 : decode cX6_create 40 = .ok (.iconst 0, 1) := by decide +kernel
theorem dX6_create_41 : decode cX6_create 41 = .ok (.invokevirtual 68, 3) := by decide +kernel
theorem dX6_create_44 : decode cX6_create 44 = .ok (.aload_n 0, 1) := by decide +kernel
theorem dX6_create_45 : decode cX6_create 45 = .ok (.getfield 21, 3) := by decide +kernel
theorem dX6_create_48 : decode cX6_create 48 = .ok (.aload_n 0, 1) := by decide +kernel
theorem dX6_create_49 : decode cX6_create 49 = .ok (.getfield 44, 3) := by decide +kernel
theorem dX6_create_52 : decode cX6_create 52 = .ok (.invokevirtual 72, 3) := by decide +kernel
theorem dX6_create_55 : decode cX6_create 55 = .ok (.ifCond .eq 15, 3) := by decide +kernel
theorem dX6_create_58 : decode cX6_create 58 = .ok (.aload_n 0, 1) := by decide +kernel
theorem dX6_create_59 : decode cX6_create 59 = .ok (.aload_n 3, 1) := by decide +kernel
theorem dX6_create_60 : decode cX6_create 60 = .ok (.iload_n 2, 1) := by decide +kernel
theorem dX6_create_61 : decode cX6_create 61 = .ok (.iload 4, 2) := by decide +kernel
theorem dX6_create_63 : decode cX6_create 63 = .ok (.iconst 0, 1) := by decide +kernel
theorem dX6_create_64 : decode cX6_create 64 = .ok (.invokevirtual 76, 3) := by decide +kernel
theorem dX6_create_67 : decode cX6_create 67 = .ok (.ifCond .ne 6, 3) := by decide +kernel
theorem dX6_create_70 : decode cX6_create 70 = .ok (.bipush (-9), 2) := by decide +kernel
theorem dX6_create_72 : decode cX6_create 72 = .ok (.ireturn, 1) := by decide +kernel
theorem dX6_create_73 : decode cX6_create 73 = .ok (.aload_n 0, 1) := by decide +kernel
theorem dX6_create_74 : decode cX6_create 74 = .ok (.getfield 28, 3) := by decide +kernel
theorem dX6_create_77 : decode cX6_create 77 = .ok (.iload 4, 2) := by decide +kernel
theorem dX6_create_79 : decode cX6_create 79 = .ok (.iconst 0, 1) := by decide +kernel
theorem dX6_create_80 : decode cX6_create 80 = .ok (.invokevirtual 80, 3) := by decide +kernel
theorem dX6_create_83 : decode cX6_create 83 = .ok (.astore 5, 2) := by decide +kernel
theorem dX6_create_85 : decode cX6_create 85 = .ok (.aload 5, 2) := by decide +kernel
theorem dX6_create_87 : decode cX6_create 87 = .ok (.iconst 1, 1) := by decide +kernel
theorem dX6_create_88 : decode cX6_create 88 = .ok (.putfield 84, 3) := by decide +kernel
theorem dX6_create_91 : decode cX6_create 91 = .ok (.aload_n 0, 1) := by decide +kernel
theorem dX6_create_92 : decode cX6_create 92 = .ok (.getfield 28, 3) := by decide +kernel
theorem dX6_create_95 : decode cX6_create 95 = .ok (.aload_n 3, 1) := by decide +kernel
theorem dX6_create_96 : decode cX6_create 96 = .ok (.iload_n 2, 1) := by decide +kernel
theorem dX6_create_97 : decode cX6_create 97 = .ok (.aload 5, 2) := by decide +kernel
theorem dX6_create_99 : decode cX6_create 99 = .ok (.invokevirtual 89, 3) := by decide +kernel
theorem dX6_create_102 : decode cX6_create 102 = .ok (.iload 4, 2) := by decide +kernel
theorem dX6_create_104 : decode cX6_create 104 = .ok (.ireturn, 1) := by decide +kernel
theorem dX6_makeDirectory_0 : decode cX6_makeDirectory 0 = .ok (.aload_n 0, 1) := by decide +kernel
theorem dX6_makeDirectory_1 : decode cX6_makeDirectory 1 = .ok (.iload_n 1, 1) := by decide +kernel
theorem dX6_makeDirectory_2 : decode cX6_makeDirectory 2 = .ok (.invokevirtual 48, 3) := by decide +kernel
theorem dX6_makeDirectory_5 : decode cX6_makeDirectory 5 = .ok (.astore_n 3, 1) := by decide +kernel
theorem dX6_makeDirectory_6 : decode cX6_makeDirectory 6 = .ok (.aload_n 0, 1) := by decide +kernel
theorem dX6_makeDirectory_7 : decode cX6_makeDirectory 7 = .ok (.iload_n 2, 1) := by decide +kernel
theorem dX6_makeDirectory_8 : decode cX6_makeDirectory 8 = .ok (.invokevirtual 52, 3) := by decide +kernel
theorem dX6_makeDirectory_11 : decode cX6_makeDirectory 11 = .ok (.aload_n 0, 1) := by decide +kernel
theorem dX6_makeDirectory_12 : decode cX6_makeDirectory 12 = .ok (.aload_n 3, 1) := by decide +kernel
theorem dX6_makeDirectory_13 : decode cX6_makeDirectory 13 = .ok (.iload_n 2, 1) := by decide +kernel
theorem dX6_makeDirectory_14 : decode cX6_makeDirectory 14 = .ok (.invokevirtual 56, 3) := by decide +kernel
theorem dX6_makeDirectory_17 : decode cX6_makeDirectory 17 = .ok (.aload_n 0, 1) := by decide +kernel
theorem dX6_makeDirectory_18 : decode cX6_makeDirectory 18 = .ok (.iconst 3, 1) := by decide +kernel
theorem dX6_makeDirectory_19 : decode cX6_makeDirectory 19 = .ok (.iconst 0, 1) := by decide +kernel
theorem dX6_makeDirectory_20 : decode cX6_makeDirectory 20 = .ok (.invokevirtual 60, 3) := by decide +kernel
theorem dX6_makeDirectory_23 : decode cX6_makeDirectory 23 = .ok (.aload_n 0, 1) := by decide +kernel
theorem dX6_makeDirectory_24 : decode cX6_makeDirectory 24 = .ok (.getfield 28, 3) := by decide +kernel
theorem dX6_makeDirectory_27 : decode cX6_makeDirectory 27 = .ok (.getfield 64, 3) := by decide +kernel
theorem dX6_makeDirectory_30 : decode cX6_makeDirectory 30 = .ok (.istore 4, 2) := by decide +kernel
theorem dX6_makeDirectory_32 : decode cX6_makeDirectory 32 = .ok (.aload_n 0, 1) := by decide +kernel
theorem dX6_makeDirectory_33 : decode cX6_makeDirectory 33 = .ok (.aload_n 3, 1) := by decide +kernel
theorem dX6_makeDirectory_34 : decode cX6_makeDirectory 34 = .ok (.iload_n 2, 1) := by decide +kernel
theorem dX6_makeDirectory_35 : decode cX6_makeDirectory 35 = .ok (.iload 4, 2) := by decide +kernel
theorem dX6_makeDirectory_37 : decode cX6_makeDirectory 37 = .ok (.iconst 1, 1) := by decide +kernel
theorem dX6_makeDirectory_38 : decode cX6_makeDirectory 38 = .ok (.invokevirtual 76, 3) := by decide +kernel
theorem dX6_makeDirectory_41 : decode cX6_makeDirectory 41 = .ok (.ifCond .ne 6, 3) := by decide +kernel
theorem dX6_makeDirectory_44 : decode cX6_makeDirectory 44 = .ok (.bipush (-9), 2) := by decide +kernel
theorem dX6_makeDirectory_46 : decode cX6_makeDirectory 46 = .ok (.ireturn, 1) := by decide +kernel
theorem dX6_makeDirectory_47 : decode cX6_makeDirectory 47 = .ok (.aload_n 0, 1) := by decide +kernel
theorem dX6_makeDirectory_48 : decode cX6_makeDirectory 48 = .ok (.getfield 28, 3) := by decide +kernel
theorem dX6_makeDirectory_51 : decode cX6_makeDirectory 51 = .ok (.aload_n 3, 1) := by decide +kernel
theorem dX6_makeDirectory_52 : decode cX6_makeDirectory 52 = .ok (.iload_n 2, 1) := by decide +kernel
theorem dX6_makeDirectory_53 : decode cX6_makeDirectory 53 = .ok (.aload_n 0, 1) := by decide +kernel
theorem dX6_makeDirectory_54 : decode cX6_makeDirectory 54 = .ok (.getfield 28, 3) := by decide +kernel
theorem dX6_makeDirectory_57 : decode cX6_makeDirectory 57 = .ok (.iload 4, 2) := by decide +kernel
theorem dX6_makeDirectory_59 : decode cX6_makeDirectory 59 = .ok (.iconst 1, 1) := by decide +kernel
theorem dX6_makeDirectory_60 : decode cX6_makeDirectory 60 = .ok (.invokevirtual 80, 3) := by decide +kernel
theorem dX6_makeDirectory_63 : decode cX6_makeDirectory 63 = .ok (.invokevirtual 89, 3) := by decide +kernel
theorem dX6_makeDirectory_66 : decode cX6_makeDirectory 66 = .ok (.iload 4, 2) := by decide +kernel
theorem dX6_makeDirectory_68 : decode cX6_makeDirectory 68 = .ok (.ireturn, 1) := by decide +kernel
theorem dX6_link_0 : decode cX6_link 0 = .ok (.aload_n 0, 1) := by decide +kernel
theorem dX6_link_1 : decode cX6_link 1 = .ok (.iload_n 1, 1) := by decide +kernel
theorem dX6_link_2 : decode cX6_link 2 = .ok (.invokevirtual 48, 3) := by decide +kernel
theorem dX6_link_5 : decode cX6_link 5 = .ok (.astore 4, 2) := by decide +kernel
theorem dX6_link_7 : decode cX6_link 7 = .ok (.aload_n 0, 1) := by decide +kernel
theorem dX6_link_8 : decode cX6_link 8 = .ok (.iload_n 3, 1) := by decide +kernel
theorem dX6_link_9 : decode cX6_link 9 = .ok (.invokevirtual 93, 3) := by decide +kernel
theorem dX6_link_12 : decode cX6_link 12 = .ok (.astore 5, 2) := by decide +kernel
theorem dX6_link_14 : decode cX6_link 14 = .ok (.aload_n 0, 1) := by decide +kernel
theorem dX6_link_15 : decode cX6_link 15 = .ok (.iload_n 2, 1) := by decide +kernel
theorem dX6_link_16 : decode cX6_link 16 = .ok (.invokevirtual 52, 3) := by decide +kernel
theorem dX6_link_19 : decode cX6_link 19 = .ok (.aload_n 0, 1) := by decide +kernel
theorem dX6_link_20 : decode cX6_link 20 = .ok (.aload 4, 2) := by decide +kernel
theorem dX6_link_22 : decode cX6_link 22 = .ok (.iload_n 2, 1) := by decide +kernel
theorem dX6_link_23 : decode cX6_link 23 = .ok (.invokevirtual 56, 3) := by decide +kernel
theorem dX6_link_26 : decode cX6_link 26 = .ok (.aload_n 0, 1) := by decide +kernel
theorem dX6_link_27 : decode cX6_link 27 = .ok (.iconst 3, 1) := by decide +kernel
theorem dX6_link_28 : decode cX6_link 28 = .ok (.iconst 0, 1) := by decide +kernel
theorem dX6_link_29 : decode cX6_link 29 = .ok (.invokevirtual 60, 3) := by decide +kernel
theorem dX6_link_32 : decode cX6_link 32 = .ok (.aload_n 0, 1) := by decide +kernel
theorem dX6_link_33 : decode cX6_link 33 = .ok (.aload 4, 2) := by decide +kernel
theorem dX6_link_35 : decode cX6_link 35 = .ok (.iload_n 2, 1) := by decide +kernel
theorem dX6_link_36 : decode cX6_link 36 = .ok (.iload_n 3, 1) := by decide +kernel
theorem dX6_link_37 : decode cX6_link 37 = .ok (.iconst 0, 1) := by decide +kernel
theorem dX6_link_38 : decode cX6_link 38 = .ok (.invokevirtual 76, 3) := by decide +kernel
theorem dX6_link_41 : decode cX6_link 41 = .ok (.ifCond .ne 6, 3) := by decide +kernel
theorem dX6_link_44 : decode cX6_link 44 = .ok (.bipush (-9), 2) := by decide +kernel
theorem dX6_link_46 : decode cX6_link 46 = .ok (.ireturn, 1) := by decide +kernel
theorem dX6_link_47 : decode cX6_link 47 = .ok (.aload_n 0, 1) := by decide +kernel
theorem dX6_link_48 : decode cX6_link 48 = .ok (.getfield 28, 3) := by decide +kernel
theorem dX6_link_51 : decode cX6_link 51 = .ok (.aload 4, 2) := by decide +kernel
theorem dX6_link_53 : decode cX6_link 53 = .ok (.iload_n 2, 1) := by decide +kernel
theorem dX6_link_54 : decode cX6_link 54 = .ok (.aload 5, 2) := by decide +kernel
theorem dX6_link_56 : decode cX6_link 56 = .ok (.invokevirtual 89, 3) := by decide +kernel
theorem dX6_link_59 : decode cX6_link 59 = .ok (.aload 5, 2) := by decide +kernel
theorem dX6_link_61 : decode cX6_link 61 = .ok (.getfield 96, 3) := by decide +kernel
theorem dX6_link_64 : decode cX6_link 64 = .ok (.ireturn, 1) := by decide +kernel
theorem dX6_unlink_0 : decode cX6_unlink 0 = .ok (.aload_n 0, 1) := by decide +kernel
theorem dX6_unlink_1 : decode cX6_unlink 1 = .ok (.iload_n 1, 1) := by decide +kernel
theorem dX6_unlink_2 : decode cX6_unlink 2 = .ok (.invokevirtual 48, 3) := by decide +kernel
theorem dX6_unlink_5 : decode cX6_unlink 5 = .ok (.astore_n 3, 1) := by decide +kernel
theorem dX6_unlink_6 : decode cX6_unlink 6 = .ok (.aload_n 0, 1) := by decide +kernel
theorem dX6_unlink_7 : decode cX6_unlink 7 = .ok (.iload_n 2, 1) := by decide +kernel
theorem dX6_unlink_8 : decode cX6_unlink 8 = .ok (.invokevirtual 52, 3) := by decide +kernel
theorem dX6_unlink_11 : decode cX6_unlink 11 = .ok (.aload_n 0, 1) := by decide +kernel
theorem dX6_unlink_12 : decode cX6_unlink 12 = .ok (.aload_n 3, 1) := by decide +kernel
theorem dX6_unlink_13 : decode cX6_unlink 13 = .ok (.iload_n 2, 1) := by decide +kernel
theorem dX6_unlink_14 : decode cX6_unlink 14 = .ok (.invokevirtual 99, 3) := by decide +kernel
theorem dX6_unlink_17 : decode cX6_unlink 17 = .ok (.astore 4, 2) := by decide +kernel
theorem dX6_unlink_19 : decode cX6_unlink 19 = .ok (.aload 4, 2) := by decide +kernel
theorem dX6_unlink_21 : decode cX6_unlink 21 = .ok (.getfield 103, 3) := by decide +kernel
theorem dX6_unlink_24 : decode cX6_unlink 24 = .ok (.ifCond .le 13, 3) := by decide +kernel
theorem dX6_unlink_27 : decode cX6_unlink 27 = .ok (.new 106, 3) := by decide +kernel
theorem dX6_unlink_30 : decode cX6_unlink 30 = .ok (.dup, 1) := by decide +kernel
theorem dX6_unlink_31 : decode cX6_unlink 31 = .ok (.ldc 108, 2) := by decide +kernel
theorem dX6_unlink_33 : decode cX6_unlink 33 = .ok (.invokespecial 110, 3) := by decide +kernel
theorem dX6_unlink_36 : decode cX6_unlink 36 = .ok (.athrow, 1) := by decide +kernel
theorem dX6_unlink_37 : decode cX6_unlink 37 = .ok (.aload_n 0, 1) := by decide +kernel
theorem dX6_unlink_38 : decode cX6_unlink 38 = .ok (.iconst 3, 1) := by decide +kernel
theorem dX6_unlink_39 : decode cX6_unlink 39 = .ok (.iconst 0, 1) := by decide +kernel
theorem dX6_unlink_40 : decode cX6_unlink 40 = .ok (.invokevirtual 60, 3) := by decide +kernel
theorem dX6_unlink_43 : decode cX6_unlink 43 = .ok (.aload 4, 2) := by decide +kernel
theorem dX6_unlink_45 : decode cX6_unlink 45 = .ok (.getfield 113, 3) := by decide +kernel
theorem dX6_unlink_48 : decode cX6_unlink 48 = .ok (.istore 5, 2) := by decide +kernel
theorem dX6_unlink_50 : decode cX6_unlink 50 = .ok (.aload_n 0, 1) := by decide +kernel
theorem dX6_unlink_51 : decode cX6_unlink 51 = .ok (.aload_n 3, 1) := by decide +kernel
theorem dX6_unlink_52 : decode cX6_unlink 52 = .ok (.iload_n 2, 1) := by decide +kernel
theorem dX6_unlink_53 : decode cX6_unlink 53 = .ok (.iconst 0, 1) := by decide +kernel
theorem dX6_unlink_54 : decode cX6_unlink 54 = .ok (.iconst 0, 1) := by decide +kernel
theorem dX6_unlink_55 : decode cX6_unlink 55 = .ok (.invokevirtual 76, 3) := by decide +kernel
theorem dX6_unlink_58 : decode cX6_unlink 58 = .ok (.ifCond .ne 6, 3) := by decide +kernel
theorem dX6_unlink_61 : decode cX6_unlink 61 = .ok (.bipush (-9), 2) := by decide +kernel
theorem dX6_unlink_63 : decode cX6_unlink 63 = .ok (.ireturn, 1) := by decide +kernel
theorem dX6_unlink_64 : decode cX6_unlink 64 = .ok (.aload_n 0, 1) := by decide +kernel
theorem dX6_unlink_65 : decode cX6_unlink 65 = .ok (.getfield 28, 3) := by decide +kernel
theorem dX6_unlink_68 : decode cX6_unlink 68 = .ok (.aload_n 3, 1) := by decide +kernel
theorem dX6_unlink_69 : decode cX6_unlink 69 = .ok (.iload_n 2, 1) := by decide +kernel
theorem dX6_unlink_70 : decode cX6_unlink 70 = .ok (.aconst_null, 1) := by decide +kernel
theorem dX6_unlink_71 : decode cX6_unlink 71 = .ok (.invokevirtual 89, 3) := by decide +kernel
theorem dX6_unlink_74 : decode cX6_unlink 74 = .ok (.iload 5, 2) := by decide +kernel
theorem dX6_unlink_76 : decode cX6_unlink 76 = .ok (.ireturn, 1) := by decide +kernel
theorem dX6_rename_0 : decode cX6_rename 0 = .ok (.aload_n 0, 1) := by decide +kernel
theorem dX6_rename_1 : decode cX6_rename 1 = .ok (.iload_n 1, 1) := by decide +kernel
theorem dX6_rename_2 : decode cX6_rename 2 = .ok (.invokevirtual 48, 3) := by decide +kernel
theorem dX6_rename_5 : decode cX6_rename 5 = .ok (.astore 5, 2) := by decide +kernel
theorem dX6_rename_7 : decode cX6_rename 7 = .ok (.aload_n 0, 1) := by decide +kernel
theorem dX6_rename_8 : decode cX6_rename 8 = .ok (.iload_n 3, 1) := by decide +kernel
theorem dX6_rename_9 : decode cX6_rename 9 = .ok (.invokevirtual 48, 3) := by decide +kernel
theorem dX6_rename_12 : decode cX6_rename 12 = .ok (.astore 6, 2) := by decide +kernel
theorem dX6_rename_14 : decode cX6_rename 14 = .ok (.aload_n 0, 1) := by decide +kernel
theorem dX6_rename_15 : decode cX6_rename 15 = .ok (.iload_n 2, 1) := by decide +kernel
theorem dX6_rename_16 : decode cX6_rename 16 = .ok (.invokevirtual 52, 3) := by decide +kernel
theorem dX6_rename_19 : decode cX6_rename 19 = .ok (.aload_n 0, 1) := by decide +kernel
theorem dX6_rename_20 : decode cX6_rename 20 = .ok (.iload 4, 2) := by decide +kernel
theorem dX6_rename_22 : decode cX6_rename 22 = .ok (.invokevirtual 52, 3) := by decide +kernel
theorem dX6_rename_25 : decode cX6_rename 25 = .ok (.aload_n 0, 1) := by decide +kernel
theorem dX6_rename_26 : decode cX6_rename 26 = .ok (.aload 5, 2) := by decide +kernel
theorem dX6_rename_28 : decode cX6_rename 28 = .ok (.iload_n 2, 1) := by decide +kernel
theorem dX6_rename_29 : decode cX6_rename 29 = .ok (.invokevirtual 99, 3) := by decide +kernel
theorem dX6_rename_32 : decode cX6_rename 32 = .ok (.astore 7, 2) := by decide +kernel
theorem dX6_rename_34 : decode cX6_rename 34 = .ok (.aload_n 0, 1) := by decide +kernel
theorem dX6_rename_35 : decode cX6_rename 35 = .ok (.aload 7, 2) := by decide +kernel
theorem dX6_rename_37 : decode cX6_rename 37 = .ok (.aload 6, 2) := by decide +kernel
theorem dX6_rename_39 : decode cX6_rename 39 = .ok (.aload_n 0, 1) := by decide +kernel
theorem dX6_rename_40 : decode cX6_rename 40 = .ok (.getfield 28, 3) := by decide +kernel
theorem dX6_rename_43 : decode cX6_rename 43 = .ok (.aload 6, 2) := by decide +kernel
theorem dX6_rename_45 : decode cX6_rename 45 = .ok (.iload 4, 2) := by decide +kernel
theorem dX6_rename_47 : decode cX6_rename 47 = .ok (.invokevirtual 116, 3) := by decide +kernel
theorem dX6_rename_50 : decode cX6_rename 50 = .ok (.invokevirtual 120, 3) := by decide +kernel
theorem dX6_rename_53 : decode cX6_rename 53 = .ok (.invokevirtual 123, 3) := by decide +kernel
theorem dX6_rename_56 : decode cX6_rename 56 = .ok (.aload_n 0, 1) := by decide +kernel
theorem dX6_rename_57 : decode cX6_rename 57 = .ok (.iconst 3, 1) := by decide +kernel
theorem dX6_rename_58 : decode cX6_rename 58 = .ok (.iconst 3, 1) := by decide +kernel
theorem dX6_rename_59 : decode cX6_rename 59 = .ok (.invokevirtual 60, 3) := by decide +kernel
theorem dX6_rename_62 : decode cX6_rename 62 = .ok (.aload 7, 2) := by decide +kernel
theorem dX6_rename_64 : decode cX6_rename 64 = .ok (.getfield 113, 3) := by decide +kernel
theorem dX6_rename_67 : decode cX6_rename 67 = .ok (.istore 8, 2) := by decide +kernel
theorem dX6_rename_69 : decode cX6_rename 69 = .ok (.aload_n 0, 1) := by decide +kernel
theorem dX6_rename_70 : decode cX6_rename 70 = .ok (.aload 6, 2) := by decide +kernel
theorem dX6_rename_72 : decode cX6_rename 72 = .ok (.iload 4, 2) := by decide +kernel
theorem dX6_rename_74 : decode cX6_rename 74 = .ok (.iload 8, 2) := by decide +kernel
theorem dX6_rename_76 : decode cX6_rename 76 = .ok (.aload 7, 2) := by decide +kernel
theorem dX6_rename_78 : decode cX6_rename 78 = .ok (.getfield 127, 3) := by decide +kernel
theorem dX6_rename_81 : decode cX6_rename 81 = .ok (.invokevirtual 76, 3) := by decide +kernel
theorem dX6_rename_84 : decode cX6_rename 84 = .ok (.ifCond .eq 15, 3) := by decide +kernel
theorem dX6_rename_87 : decode cX6_rename 87 = .ok (.aload_n 0, 1) := by decide +kernel
theorem dX6_rename_88 : decode cX6_rename 88 = .ok (.aload 5, 2) := by decide +kernel
theorem dX6_rename_90 : decode cX6_rename 90 = .ok (.iload_n 2, 1) := by decide +kernel
theorem dX6_rename_91 : decode cX6_rename 91 = .ok (.iconst 0, 1) := by decide +kernel
theorem dX6_rename_92 : decode cX6_rename 92 = .ok (.iconst 0, 1) := by decide +kernel
theorem dX6_rename_93 : decode cX6_rename 93 = .ok (.invokevirtual 76, 3) := by decide +kernel
theorem dX6_rename_96 : decode cX6_rename 96 = .ok (.ifCond .ne 6, 3) := by decide +kernel
theorem dX6_rename_99 : decode cX6_rename 99 = .ok (.bipush (-9), 2) := by decide +kernel
theorem dX6_rename_101 : decode cX6_rename 101 = .ok (.ireturn, 1) := by decide +kernel
theorem dX6_rename_102 : decode cX6_rename 102 = .ok (.aload_n 0, 1) := by decide +kernel
theorem dX6_rename_103 : decode cX6_rename 103 = .ok (.getfield 28, 3) := by decide +kernel
theorem dX6_rename_106 : decode cX6_rename 106 = .ok (.aload 6, 2) := by decide +kernel
theorem dX6_rename_108 : decode cX6_rename 108 = .ok (.iload 4, 2) := by decide +kernel
theorem dX6_rename_110 : decode cX6_rename 110 = .ok (.aload 7, 2) := by decide +kernel
theorem dX6_rename_112 : decode cX6_rename 112 = .ok (.invokevirtual 89, 3) := by decide +kernel
theorem dX6_rename_115 : decode cX6_rename 115 = .ok (.aload_n 0, 1) := by decide +kernel
theorem dX6_rename_116 : decode cX6_rename 116 = .ok (.getfield 28, 3) := by decide +kernel
theorem dX6_rename_119 : decode cX6_rename 119 = .ok (.aload 5, 2) := by decide +kernel
theorem dX6_rename_121 : decode cX6_rename 121 = .ok (.iload_n 2, 1) := by decide +kernel
theorem dX6_rename_122 : decode cX6_rename 122 = .ok (.aconst_null, 1) := by decide +kernel
theorem dX6_rename_123 : decode cX6_rename 123 = .ok (.invokevirtual 89, 3) := by decide +kernel
theorem dX6_rename_126 : decode cX6_rename 126 = .ok (.iload 8, 2) := by decide +kernel
theorem dX6_rename_128 : decode cX6_rename 128 = .ok (.ireturn, 1) := by decide +kernel
theorem dX6_write_0 : decode cX6_write 0 = .ok (.aload_n 0, 1) := by decide +kernel
theorem dX6_write_1 : decode cX6_write 1 = .ok (.iload_n 1, 1) := by decide +kernel
theorem dX6_write_2 : decode cX6_write 2 = .ok (.invokevirtual 93, 3) := by decide +kernel
theorem dX6_write_5 : decode cX6_write 5 = .ok (.astore 6, 2) := by decide +kernel
theorem dX6_write_7 : decode cX6_write 7 = .ok (.iload_n 2, 1) := by decide +kernel
theorem dX6_write_8 : decode cX6_write 8 = .ok (.ifCond .lt 9, 3) := by decide +kernel
theorem dX6_write_11 : decode cX6_write 11 = .ok (.iload_n 2, 1) := by decide +kernel
theorem dX6_write_12 : decode cX6_write 12 = .ok (.bipush 64, 2) := by decide +kernel
theorem dX6_write_14 : decode cX6_write 14 = .ok (.if_icmp .lt 13, 3) := by decide +kernel
theorem dX6_write_17 : decode cX6_write 17 = .ok (.new 131, 3) := by decide +kernel
theorem dX6_write_20 : decode cX6_write 20 = .ok (.dup, 1) := by decide +kernel
theorem dX6_write_21 : decode cX6_write 21 = .ok (.ldc 133, 2) := by decide +kernel
theorem dX6_write_23 : decode cX6_write 23 = .ok (.invokespecial 135, 3) := by decide +kernel
theorem dX6_write_26 : decode cX6_write 26 = .ok (.athrow, 1) := by decide +kernel
theorem dX6_write_27 : decode cX6_write 27 = .ok (.iload 5, 2) := by decide +kernel
theorem dX6_write_29 : decode cX6_write 29 = .ok (.iconst 1, 1) := by decide +kernel
theorem dX6_write_30 : decode cX6_write 30 = .ok (.if_icmp .lt 19, 3) := by decide +kernel
theorem dX6_write_33 : decode cX6_write 33 = .ok (.iload 5, 2) := by decide +kernel
theorem dX6_write_35 : decode cX6_write 35 = .ok (.bipush 8, 2) := by decide +kernel
theorem dX6_write_37 : decode cX6_write 37 = .ok (.if_icmp .gt 12, 3) := by decide +kernel
theorem dX6_write_40 : decode cX6_write 40 = .ok (.iload 5, 2) := by decide +kernel
theorem dX6_write_42 : decode cX6_write 42 = .ok (.bipush 64, 2) := by decide +kernel
theorem dX6_write_44 : decode cX6_write 44 = .ok (.iload_n 2, 1) := by decide +kernel
theorem dX6_write_45 : decode cX6_write 45 = .ok (.isub, 1) := by decide +kernel
theorem dX6_write_46 : decode cX6_write 46 = .ok (.if_icmp .le 13, 3) := by decide +kernel
theorem dX6_write_49 : decode cX6_write 49 = .ok (.new 131, 3) := by decide +kernel
theorem dX6_write_52 : decode cX6_write 52 = .ok (.dup, 1) := by decide +kernel
theorem dX6_write_53 : decode cX6_write 53 = .ok (.ldc 136, 2) := by decide +kernel
theorem dX6_write_55 : decode cX6_write 55 = .ok (.invokespecial 135, 3) := by decide +kernel
theorem dX6_write_58 : decode cX6_write 58 = .ok (.athrow, 1) := by decide +kernel
theorem dX6_write_59 : decode cX6_write 59 = .ok (.aload_n 0, 1) := by decide +kernel
theorem dX6_write_60 : decode cX6_write 60 = .ok (.iconst 2, 1) := by decide +kernel
theorem dX6_write_61 : decode cX6_write 61 = .ok (.iload 5, 2) := by decide +kernel
theorem dX6_write_63 : decode cX6_write 63 = .ok (.iadd, 1) := by decide +kernel
theorem dX6_write_64 : decode cX6_write 64 = .ok (.iconst 0, 1) := by decide +kernel
theorem dX6_write_65 : decode cX6_write 65 = .ok (.invokevirtual 60, 3) := by decide +kernel
theorem dX6_write_68 : decode cX6_write 68 = .ok (.aload_n 0, 1) := by decide +kernel
theorem dX6_write_69 : decode cX6_write 69 = .ok (.getfield 44, 3) := by decide +kernel
theorem dX6_write_72 : decode cX6_write 72 = .ok (.iload_n 1, 1) := by decide +kernel
theorem dX6_write_73 : decode cX6_write 73 = .ok (.aload 6, 2) := by decide +kernel
theorem dX6_write_75 : decode cX6_write 75 = .ok (.getfield 84, 3) := by decide +kernel
theorem dX6_write_78 : decode cX6_write 78 = .ok (.iconst 1, 1) := by decide +kernel
theorem dX6_write_79 : decode cX6_write 79 = .ok (.iadd, 1) := by decide +kernel
theorem dX6_write_80 : decode cX6_write 80 = .ok (.iload_n 2, 1) := by decide +kernel
theorem dX6_write_81 : decode cX6_write 81 = .ok (.aload 6, 2) := by decide +kernel
theorem dX6_write_83 : decode cX6_write 83 = .ok (.getfield 138, 3) := by decide +kernel
theorem dX6_write_86 : decode cX6_write 86 = .ok (.iload_n 2, 1) := by decide +kernel
theorem dX6_write_87 : decode cX6_write 87 = .ok (.iload 5, 2) := by decide +kernel
theorem dX6_write_89 : decode cX6_write 89 = .ok (.iadd, 1) := by decide +kernel
theorem dX6_write_90 : decode cX6_write 90 = .ok (.invokestatic 141, 3) := by decide +kernel
theorem dX6_write_93 : decode cX6_write 93 = .ok (.invokevirtual 68, 3) := by decide +kernel
theorem dX6_write_96 : decode cX6_write 96 = .ok (.aload_n 0, 1) := by decide +kernel
theorem dX6_write_97 : decode cX6_write 97 = .ok (.getfield 44, 3) := by decide +kernel
theorem dX6_write_100 : decode cX6_write 100 = .ok (.lload_n 3, 1) := by decide +kernel
theorem dX6_write_101 : decode cX6_write 101 = .ok (.iload 5, 2) := by decide +kernel
theorem dX6_write_103 : decode cX6_write 103 = .ok (.invokevirtual 147, 3) := by decide +kernel
theorem dX6_write_106 : decode cX6_write 106 = .ok (.aload_n 0, 1) := by decide +kernel
theorem dX6_write_107 : decode cX6_write 107 = .ok (.aload 6, 2) := by decide +kernel
theorem dX6_write_109 : decode cX6_write 109 = .ok (.invokevirtual 151, 3) := by decide +kernel
theorem dX6_write_112 : decode cX6_write 112 = .ok (.ifCond .eq 11, 3) := by decide +kernel
theorem dX6_write_115 : decode cX6_write 115 = .ok (.aload 6, 2) := by decide +kernel
theorem dX6_write_117 : decode cX6_write 117 = .ok (.getfield 138, 3) := by decide +kernel
theorem dX6_write_120 : decode cX6_write 120 = .ok (.goto 5, 3) := by decide +kernel
theorem dX6_write_123 : decode cX6_write 123 = .ok (.bipush (-9), 2) := by decide +kernel
theorem dX6_write_125 : decode cX6_write 125 = .ok (.ireturn, 1) := by decide +kernel
theorem dX6_truncate_0 : decode cX6_truncate 0 = .ok (.aload_n 0, 1) := by decide +kernel
theorem dX6_truncate_1 : decode cX6_truncate 1 = .ok (.iload_n 1, 1) := by decide +kernel
theorem dX6_truncate_2 : decode cX6_truncate 2 = .ok (.invokevirtual 93, 3) := by decide +kernel
theorem dX6_truncate_5 : decode cX6_truncate 5 = .ok (.astore_n 3, 1) := by decide +kernel
theorem dX6_truncate_6 : decode cX6_truncate 6 = .ok (.iload_n 2, 1) := by decide +kernel
theorem dX6_truncate_7 : decode cX6_truncate 7 = .ok (.ifCond .lt 9, 3) := by decide +kernel
theorem dX6_truncate_10 : decode cX6_truncate 10 = .ok (.iload_n 2, 1) := by decide +kernel
theorem dX6_truncate_11 : decode cX6_truncate 11 = .ok (.bipush 64, 2) := by decide +kernel
theorem dX6_truncate_13 : decode cX6_truncate 13 = .ok (.if_icmp .le 13, 3) := by decide +kernel
theorem dX6_truncate_16 : decode cX6_truncate 16 = .ok (.new 131, 3) := by decide +kernel
theorem dX6_truncate_19 : decode cX6_truncate 19 = .ok (.dup, 1) := by decide +kernel
theorem dX6_truncate_20 : decode cX6_truncate 20 = .ok (.ldc 155, 2) := by decide +kernel
theorem dX6_truncate_22 : decode cX6_truncate 22 = .ok (.invokespecial 135, 3) := by decide +kernel
theorem dX6_truncate_25 : decode cX6_truncate 25 = .ok (.athrow, 1) := by decide +kernel
theorem dX6_truncate_26 : decode cX6_truncate 26 = .ok (.aload_n 0, 1) := by decide +kernel
theorem dX6_truncate_27 : decode cX6_truncate 27 = .ok (.iconst 2, 1) := by decide +kernel
theorem dX6_truncate_28 : decode cX6_truncate 28 = .ok (.iconst 0, 1) := by decide +kernel
theorem dX6_truncate_29 : decode cX6_truncate 29 = .ok (.invokevirtual 60, 3) := by decide +kernel
theorem dX6_truncate_32 : decode cX6_truncate 32 = .ok (.aload_n 3, 1) := by decide +kernel
theorem dX6_truncate_33 : decode cX6_truncate 33 = .ok (.getfield 138, 3) := by decide +kernel
theorem dX6_truncate_36 : decode cX6_truncate 36 = .ok (.istore 4, 2) := by decide +kernel
theorem dX6_truncate_38 : decode cX6_truncate 38 = .ok (.aload_n 0, 1) := by decide +kernel
theorem dX6_truncate_39 : decode cX6_truncate 39 = .ok (.getfield 44, 3) := by decide +kernel
theorem dX6_truncate_42 : decode cX6_truncate 42 = .ok (.iload_n 1, 1) := by decide +kernel
theorem dX6_truncate_43 : decode cX6_truncate 43 = .ok (.aload_n 3, 1) := by decide +kernel
theorem dX6_truncate_44 : decode cX6_truncate 44 = .ok (.getfield 84, 3) := by decide +kernel
theorem dX6_truncate_47 : decode cX6_truncate 47 = .ok (.iconst 1, 1) := by decide +kernel
theorem dX6_truncate_48 : decode cX6_truncate 48 = .ok (.iadd, 1) := by decide +kernel
theorem dX6_truncate_49 : decode cX6_truncate 49 = .ok (.iconst 0, 1) := by decide +kernel
theorem dX6_truncate_50 : decode cX6_truncate 50 = .ok (.iload_n 2, 1) := by decide +kernel
theorem dX6_truncate_51 : decode cX6_truncate 51 = .ok (.invokevirtual 68, 3) := by decide +kernel
theorem dX6_truncate_54 : decode cX6_truncate 54 = .ok (.aload_n 0, 1) := by decide +kernel
theorem dX6_truncate_55 : decode cX6_truncate 55 = .ok (.aload_n 3, 1) := by decide +kernel
theorem dX6_truncate_56 : decode cX6_truncate 56 = .ok (.invokevirtual 151, 3) := by decide +kernel
theorem dX6_truncate_59 : decode cX6_truncate 59 = .ok (.ifCond .eq 8, 3) := by decide +kernel
theorem dX6_truncate_62 : decode cX6_truncate 62 = .ok (.iload 4, 2) := by decide +kernel
theorem dX6_truncate_64 : decode cX6_truncate 64 = .ok (.goto 5, 3) := by decide +kernel
theorem dX6_truncate_67 : decode cX6_truncate 67 = .ok (.bipush (-9), 2) := by decide +kernel
theorem dX6_truncate_69 : decode cX6_truncate 69 = .ok (.ireturn, 1) := by decide +kernel
theorem dX6_collect_0 : decode cX6_collect 0 = .ok (.aload_n 0, 1) := by decide +kernel
theorem dX6_collect_1 : decode cX6_collect 1 = .ok (.invokevirtual 157, 3) := by decide +kernel
theorem dX6_collect_4 : decode cX6_collect 4 = .ok (.iload_n 1, 1) := by decide +kernel
theorem dX6_collect_5 : decode cX6_collect 5 = .ok (.ifCond .lt 9, 3) := by decide +kernel
theorem dX6_collect_8 : decode cX6_collect 8 = .ok (.iload_n 1, 1) := by decide +kernel
theorem dX6_collect_9 : decode cX6_collect 9 = .ok (.bipush 127, 2) := by decide +kernel
theorem dX6_collect_11 : decode cX6_collect 11 = .ok (.if_icmp .le 13, 3) := by decide +kernel
theorem dX6_collect_14 : decode cX6_collect 14 = .ok (.new 131, 3) := by decide +kernel
theorem dX6_collect_17 : decode cX6_collect 17 = .ok (.dup, 1) := by decide +kernel
theorem dX6_collect_18 : decode cX6_collect 18 = .ok (.ldc 160, 2) := by decide +kernel
theorem dX6_collect_20 : decode cX6_collect 20 = .ok (.invokespecial 135, 3) := by decide +kernel
theorem dX6_collect_23 : decode cX6_collect 23 = .ok (.athrow, 1) := by decide +kernel
theorem dX6_collect_24 : decode cX6_collect 24 = .ok (.aload_n 0, 1) := by decide +kernel
theorem dX6_collect_25 : decode cX6_collect 25 = .ok (.iload_n 1, 1) := by decide +kernel
theorem dX6_collect_26 : decode cX6_collect 26 = .ok (.invokevirtual 162, 3) := by decide +kernel
theorem dX6_collect_29 : decode cX6_collect 29 = .ok (.istore_n 2, 1) := by decide +kernel
theorem dX6_collect_30 : decode cX6_collect 30 = .ok (.iload_n 2, 1) := by decide +kernel
theorem dX6_collect_31 : decode cX6_collect 31 = .ok (.iconst (-1), 1) := by decide +kernel
theorem dX6_collect_32 : decode cX6_collect 32 = .ok (.if_icmp .ne 13, 3) := by decide +kernel
theorem dX6_collect_35 : decode cX6_collect 35 = .ok (.new 106, 3) := by decide +kernel
theorem dX6_collect_38 : decode cX6_collect 38 = .ok (.dup, 1) := by decide +kernel
theorem dX6_collect_39 : decode cX6_collect 39 = .ok (.ldc 165, 2) := by decide +kernel
theorem dX6_collect_41 : decode cX6_collect 41 = .ok (.invokespecial 110, 3) := by decide +kernel
theorem dX6_collect_44 : decode cX6_collect 44 = .ok (.athrow, 1) := by decide +kernel
theorem dX6_collect_45 : decode cX6_collect 45 = .ok (.aload_n 0, 1) := by decide +kernel
theorem dX6_collect_46 : decode cX6_collect 46 = .ok (.getfield 37, 3) := by decide +kernel
theorem dX6_collect_49 : decode cX6_collect 49 = .ok (.iload_n 2, 1) := by decide +kernel
theorem dX6_collect_50 : decode cX6_collect 50 = .ok (.invokevirtual 167, 3) := by decide +kernel
theorem dX6_collect_53 : decode cX6_collect 53 = .ok (.istore_n 3, 1) := by decide +kernel
theorem dX6_collect_54 : decode cX6_collect 54 = .ok (.aload_n 0, 1) := by decide +kernel
theorem dX6_collect_55 : decode cX6_collect 55 = .ok (.iload_n 3, 1) := by decide +kernel
theorem dX6_collect_56 : decode cX6_collect 56 = .ok (.invokevirtual 170, 3) := by decide +kernel
theorem dX6_collect_59 : decode cX6_collect 59 = .ok (.iconst 0, 1) := by decide +kernel
theorem dX6_collect_60 : decode cX6_collect 60 = .ok (.istore 4, 2) := by decide +kernel
theorem dX6_collect_62 : decode cX6_collect 62 = .ok (.iload 4, 2) := by decide +kernel
theorem dX6_collect_64 : decode cX6_collect 64 = .ok (.iload_n 3, 1) := by decide +kernel
theorem dX6_collect_65 : decode cX6_collect 65 = .ok (.if_icmp .ge 31, 3) := by decide +kernel
theorem dX6_collect_68 : decode cX6_collect 68 = .ok (.aload_n 0, 1) := by decide +kernel
theorem dX6_collect_69 : decode cX6_collect 69 = .ok (.getfield 21, 3) := by decide +kernel
theorem dX6_collect_72 : decode cX6_collect 72 = .ok (.aload_n 0, 1) := by decide +kernel
theorem dX6_collect_73 : decode cX6_collect 73 = .ok (.getfield 37, 3) := by decide +kernel
theorem dX6_collect_76 : decode cX6_collect 76 = .ok (.iload 4, 2) := by decide +kernel
theorem dX6_collect_78 : decode cX6_collect 78 = .ok (.invokevirtual 173, 3) := by decide +kernel
theorem dX6_collect_81 : decode cX6_collect 81 = .ok (.invokevirtual 72, 3) := by decide +kernel
theorem dX6_collect_84 : decode cX6_collect 84 = .ok (.ifCond .ne 6, 3) := by decide +kernel
theorem dX6_collect_87 : decode cX6_collect 87 = .ok (.bipush (-9), 2) := by decide +kernel
theorem dX6_collect_89 : decode cX6_collect 89 = .ok (.ireturn, 1) := by decide +kernel
theorem dX6_collect_90 : decode cX6_collect 90 = .ok (.iinc 4 1, 3) := by decide +kernel
theorem dX6_collect_93 : decode cX6_collect 93 = .ok (.goto (-31), 3) := by decide +kernel
theorem dX6_collect_96 : decode cX6_collect 96 = .ok (.aload_n 0, 1) := by decide +kernel
theorem dX6_collect_97 : decode cX6_collect 97 = .ok (.getfield 21, 3) := by decide +kernel
theorem dX6_collect_100 : decode cX6_collect 100 = .ok (.iload_n 2, 1) := by decide +kernel
theorem dX6_collect_101 : decode cX6_collect 101 = .ok (.invokevirtual 177, 3) := by decide +kernel
theorem dX6_collect_104 : decode cX6_collect 104 = .ok (.ifCond .eq 7, 3) := by decide +kernel
theorem dX6_collect_107 : decode cX6_collect 107 = .ok (.iload_n 2, 1) := by decide +kernel
theorem dX6_collect_108 : decode cX6_collect 108 = .ok (.goto 5, 3) := by decide +kernel
theorem dX6_collect_111 : decode cX6_collect 111 = .ok (.bipush (-9), 2) := by decide +kernel
theorem dX6_collect_113 : decode cX6_collect 113 = .ok (.ireturn, 1) := by decide +kernel
theorem dX6_cut_0 : decode cX6_cut 0 = .ok (.iload_n 1, 1) := by decide +kernel
theorem dX6_cut_1 : decode cX6_cut 1 = .ok (.iconst (-1), 1) := by decide +kernel
theorem dX6_cut_2 : decode cX6_cut 2 = .ok (.if_icmp .eq 24, 3) := by decide +kernel
theorem dX6_cut_5 : decode cX6_cut 5 = .ok (.iload_n 1, 1) := by decide +kernel
theorem dX6_cut_6 : decode cX6_cut 6 = .ok (.ifCond .lt 10, 3) := by decide +kernel
theorem dX6_cut_9 : decode cX6_cut 9 = .ok (.iload_n 1, 1) := by decide +kernel
theorem dX6_cut_10 : decode cX6_cut 10 = .ok (.sipush 1000, 3) := by decide +kernel
theorem dX6_cut_13 : decode cX6_cut 13 = .ok (.if_icmp .le 13, 3) := by decide +kernel
theorem dX6_cut_16 : decode cX6_cut 16 = .ok (.new 131, 3) := by decide +kernel
theorem dX6_cut_19 : decode cX6_cut 19 = .ok (.dup, 1) := by decide +kernel
theorem dX6_cut_20 : decode cX6_cut 20 = .ok (.ldc 181, 2) := by decide +kernel
theorem dX6_cut_22 : decode cX6_cut 22 = .ok (.invokespecial 135, 3) := by decide +kernel
theorem dX6_cut_25 : decode cX6_cut 25 = .ok (.athrow, 1) := by decide +kernel
theorem dX6_cut_26 : decode cX6_cut 26 = .ok (.aload_n 0, 1) := by decide +kernel
theorem dX6_cut_27 : decode cX6_cut 27 = .ok (.getfield 10, 3) := by decide +kernel
theorem dX6_cut_30 : decode cX6_cut 30 = .ok (.getfield 183, 3) := by decide +kernel
theorem dX6_cut_33 : decode cX6_cut 33 = .ok (.istore_n 2, 1) := by decide +kernel
theorem dX6_cut_34 : decode cX6_cut 34 = .ok (.aload_n 0, 1) := by decide +kernel
theorem dX6_cut_35 : decode cX6_cut 35 = .ok (.getfield 10, 3) := by decide +kernel
theorem dX6_cut_38 : decode cX6_cut 38 = .ok (.iload_n 1, 1) := by decide +kernel
theorem dX6_cut_39 : decode cX6_cut 39 = .ok (.putfield 183, 3) := by decide +kernel
theorem dX6_cut_42 : decode cX6_cut 42 = .ok (.iload_n 2, 1) := by decide +kernel
theorem dX6_cut_43 : decode cX6_cut 43 = .ok (.ireturn, 1) := by decide +kernel
theorem dX6_mount_0 : decode cX6_mount 0 = .ok (.iconst 0, 1) := by decide +kernel
theorem dX6_mount_1 : decode cX6_mount 1 = .ok (.istore_n 2, 1) := by decide +kernel
theorem dX6_mount_2 : decode cX6_mount 2 = .ok (.iconst 0, 1) := by decide +kernel
theorem dX6_mount_3 : decode cX6_mount 3 = .ok (.istore_n 3, 1) := by decide +kernel
theorem dX6_mount_4 : decode cX6_mount 4 = .ok (.iload_n 3, 1) := by decide +kernel
theorem dX6_mount_5 : decode cX6_mount 5 = .ok (.bipush 8, 2) := by decide +kernel
theorem dX6_mount_7 : decode cX6_mount 7 = .ok (.if_icmp .ge 18, 3) := by decide +kernel
theorem dX6_mount_10 : decode cX6_mount 10 = .ok (.iload_n 2, 1) := by decide +kernel
theorem dX6_mount_11 : decode cX6_mount 11 = .ok (.aload_n 0, 1) := by decide +kernel
theorem dX6_mount_12 : decode cX6_mount 12 = .ok (.iload_n 3, 1) := by decide +kernel
theorem dX6_mount_13 : decode cX6_mount 13 = .ok (.iload_n 1, 1) := by decide +kernel
theorem dX6_mount_14 : decode cX6_mount 14 = .ok (.invokevirtual 186, 3) := by decide +kernel
theorem dX6_mount_17 : decode cX6_mount 17 = .ok (.iadd, 1) := by decide +kernel
theorem dX6_mount_18 : decode cX6_mount 18 = .ok (.istore_n 2, 1) := by decide +kernel
theorem dX6_mount_19 : decode cX6_mount 19 = .ok (.iinc 3 1, 3) := by decide +kernel
theorem dX6_mount_22 : decode cX6_mount 22 = .ok (.goto (-18), 3) := by decide +kernel
theorem dX6_mount_25 : decode cX6_mount 25 = .ok (.aload_n 0, 1) := by decide +kernel
theorem dX6_mount_26 : decode cX6_mount 26 = .ok (.getfield 10, 3) := by decide +kernel
theorem dX6_mount_29 : decode cX6_mount 29 = .ok (.iconst 0, 1) := by decide +kernel
theorem dX6_mount_30 : decode cX6_mount 30 = .ok (.putfield 190, 3) := by decide +kernel
theorem dX6_mount_33 : decode cX6_mount 33 = .ok (.aload_n 0, 1) := by decide +kernel
theorem dX6_mount_34 : decode cX6_mount 34 = .ok (.getfield 21, 3) := by decide +kernel
theorem dX6_mount_37 : decode cX6_mount 37 = .ok (.invokevirtual 193, 3) := by decide +kernel
theorem dX6_mount_40 : decode cX6_mount 40 = .ok (.aload_n 0, 1) := by decide +kernel
theorem dX6_mount_41 : decode cX6_mount 41 = .ok (.getfield 28, 3) := by decide +kernel
theorem dX6_mount_44 : decode cX6_mount 44 = .ok (.aload_n 0, 1) := by decide +kernel
theorem dX6_mount_45 : decode cX6_mount 45 = .ok (.getfield 10, 3) := by decide +kernel
theorem dX6_mount_48 : decode cX6_mount 48 = .ok (.invokevirtual 196, 3) := by decide +kernel
theorem dX6_mount_51 : decode cX6_mount 51 = .ok (.aload_n 0, 1) := by decide +kernel
theorem dX6_mount_52 : decode cX6_mount 52 = .ok (.getfield 21, 3) := by decide +kernel
theorem dX6_mount_55 : decode cX6_mount 55 = .ok (.invokevirtual 198, 3) := by decide +kernel
theorem dX6_mount_58 : decode cX6_mount 58 = .ok (.ifCond .eq 7, 3) := by decide +kernel
theorem dX6_mount_61 : decode cX6_mount 61 = .ok (.iload_n 2, 1) := by decide +kernel
theorem dX6_mount_62 : decode cX6_mount 62 = .ok (.goto 5, 3) := by decide +kernel
theorem dX6_mount_65 : decode cX6_mount 65 = .ok (.bipush (-9), 2) := by decide +kernel
theorem dX6_mount_67 : decode cX6_mount 67 = .ok (.ireturn, 1) := by decide +kernel
theorem dX6_isDark_0 : decode cX6_isDark 0 = .ok (.aload_n 0, 1) := by decide +kernel
theorem dX6_isDark_1 : decode cX6_isDark 1 = .ok (.getfield 10, 3) := by decide +kernel
theorem dX6_isDark_4 : decode cX6_isDark 4 = .ok (.getfield 190, 3) := by decide +kernel
theorem dX6_isDark_7 : decode cX6_isDark 7 = .ok (.ireturn, 1) := by decide +kernel
theorem dX6_lookUp_0 : decode cX6_lookUp 0 = .ok (.aload_n 0, 1) := by decide +kernel
theorem dX6_lookUp_1 : decode cX6_lookUp 1 = .ok (.iload_n 1, 1) := by decide +kernel
theorem dX6_lookUp_2 : decode cX6_lookUp 2 = .ok (.invokevirtual 48, 3) := by decide +kernel
theorem dX6_lookUp_5 : decode cX6_lookUp 5 = .ok (.astore_n 3, 1) := by decide +kernel
theorem dX6_lookUp_6 : decode cX6_lookUp 6 = .ok (.aload_n 0, 1) := by decide +kernel
theorem dX6_lookUp_7 : decode cX6_lookUp 7 = .ok (.iload_n 2, 1) := by decide +kernel
theorem dX6_lookUp_8 : decode cX6_lookUp 8 = .ok (.invokevirtual 52, 3) := by decide +kernel
theorem dX6_lookUp_11 : decode cX6_lookUp 11 = .ok (.aload_n 3, 1) := by decide +kernel
theorem dX6_lookUp_12 : decode cX6_lookUp 12 = .ok (.iload_n 2, 1) := by decide +kernel
theorem dX6_lookUp_13 : decode cX6_lookUp 13 = .ok (.invokevirtual 116, 3) := by decide +kernel
theorem dX6_lookUp_16 : decode cX6_lookUp 16 = .ok (.istore 4, 2) := by decide +kernel
theorem dX6_lookUp_18 : decode cX6_lookUp 18 = .ok (.iload 4, 2) := by decide +kernel
theorem dX6_lookUp_20 : decode cX6_lookUp 20 = .ok (.ifCond .ne 7, 3) := by decide +kernel
theorem dX6_lookUp_23 : decode cX6_lookUp 23 = .ok (.iconst (-1), 1) := by decide +kernel
theorem dX6_lookUp_24 : decode cX6_lookUp 24 = .ok (.goto 5, 3) := by decide +kernel
theorem dX6_lookUp_27 : decode cX6_lookUp 27 = .ok (.iload 4, 2) := by decide +kernel
theorem dX6_lookUp_29 : decode cX6_lookUp 29 = .ok (.ireturn, 1) := by decide +kernel
theorem dX6_names_0 : decode cX6_names 0 = .ok (.aload_n 0, 1) := by decide +kernel
theorem dX6_names_1 : decode cX6_names 1 = .ok (.iload_n 1, 1) := by decide +kernel
theorem dX6_names_2 : decode cX6_names 2 = .ok (.invokevirtual 48, 3) := by decide +kernel
theorem dX6_names_5 : decode cX6_names 5 = .ok (.getfield 103, 3) := by decide +kernel
theorem dX6_names_8 : decode cX6_names 8 = .ok (.ireturn, 1) := by decide +kernel
theorem dX6_nameAt_0 : decode cX6_nameAt 0 = .ok (.aload_n 0, 1) := by decide +kernel
theorem dX6_nameAt_1 : decode cX6_nameAt 1 = .ok (.iload_n 1, 1) := by decide +kernel
theorem dX6_nameAt_2 : decode cX6_nameAt 2 = .ok (.invokevirtual 48, 3) := by decide +kernel
theorem dX6_nameAt_5 : decode cX6_nameAt 5 = .ok (.astore_n 3, 1) := by decide +kernel
theorem dX6_nameAt_6 : decode cX6_nameAt 6 = .ok (.iload_n 2, 1) := by decide +kernel
theorem dX6_nameAt_7 : decode cX6_nameAt 7 = .ok (.ifCond .lt 11, 3) := by decide +kernel
theorem dX6_nameAt_10 : decode cX6_nameAt 10 = .ok (.iload_n 2, 1) := by decide +kernel
theorem dX6_nameAt_11 : decode cX6_nameAt 11 = .ok (.aload_n 3, 1) := by decide +kernel
theorem dX6_nameAt_12 : decode cX6_nameAt 12 = .ok (.getfield 103, 3) := by decide +kernel
theorem dX6_nameAt_15 : decode cX6_nameAt 15 = .ok (.if_icmp .lt 13, 3) := by decide +kernel
theorem dX6_nameAt_18 : decode cX6_nameAt 18 = .ok (.new 202, 3) := by decide +kernel
theorem dX6_nameAt_21 : decode cX6_nameAt 21 = .ok (.dup, 1) := by decide +kernel
theorem dX6_nameAt_22 : decode cX6_nameAt 22 = .ok (.ldc 204, 2) := by decide +kernel
theorem dX6_nameAt_24 : decode cX6_nameAt 24 = .ok (.invokespecial 206, 3) := by decide +kernel
theorem dX6_nameAt_27 : decode cX6_nameAt 27 = .ok (.athrow, 1) := by decide +kernel
theorem dX6_nameAt_28 : decode cX6_nameAt 28 = .ok (.aload_n 3, 1) := by decide +kernel
theorem dX6_nameAt_29 : decode cX6_nameAt 29 = .ok (.iload_n 2, 1) := by decide +kernel
theorem dX6_nameAt_30 : decode cX6_nameAt 30 = .ok (.invokevirtual 207, 3) := by decide +kernel
theorem dX6_nameAt_33 : decode cX6_nameAt 33 = .ok (.ireturn, 1) := by decide +kernel
theorem dX6_isDirectory_0 : decode cX6_isDirectory 0 = .ok (.aload_n 0, 1) := by decide +kernel
theorem dX6_isDirectory_1 : decode cX6_isDirectory 1 = .ok (.iload_n 1, 1) := by decide +kernel
theorem dX6_isDirectory_2 : decode cX6_isDirectory 2 = .ok (.invokevirtual 210, 3) := by decide +kernel
theorem dX6_isDirectory_5 : decode cX6_isDirectory 5 = .ok (.getfield 127, 3) := by decide +kernel
theorem dX6_isDirectory_8 : decode cX6_isDirectory 8 = .ok (.ireturn, 1) := by decide +kernel
theorem dX6_links_0 : decode cX6_links 0 = .ok (.aload_n 0, 1) := by decide +kernel
theorem dX6_links_1 : decode cX6_links 1 = .ok (.iload_n 1, 1) := by decide +kernel
theorem dX6_links_2 : decode cX6_links 2 = .ok (.invokevirtual 210, 3) := by decide +kernel
theorem dX6_links_5 : decode cX6_links 5 = .ok (.getfield 96, 3) := by decide +kernel
theorem dX6_links_8 : decode cX6_links 8 = .ok (.ireturn, 1) := by decide +kernel
theorem dX6_length_0 : decode cX6_length 0 = .ok (.aload_n 0, 1) := by decide +kernel
theorem dX6_length_1 : decode cX6_length 1 = .ok (.iload_n 1, 1) := by decide +kernel
theorem dX6_length_2 : decode cX6_length 2 = .ok (.invokevirtual 93, 3) := by decide +kernel
theorem dX6_length_5 : decode cX6_length 5 = .ok (.getfield 138, 3) := by decide +kernel
theorem dX6_length_8 : decode cX6_length 8 = .ok (.ireturn, 1) := by decide +kernel
theorem dX6_byteAt_0 : decode cX6_byteAt 0 = .ok (.aload_n 0, 1) := by decide +kernel
theorem dX6_byteAt_1 : decode cX6_byteAt 1 = .ok (.iload_n 1, 1) := by decide +kernel
theorem dX6_byteAt_2 : decode cX6_byteAt 2 = .ok (.invokevirtual 93, 3) := by decide +kernel
theorem dX6_byteAt_5 : decode cX6_byteAt 5 = .ok (.astore_n 3, 1) := by decide +kernel
theorem dX6_byteAt_6 : decode cX6_byteAt 6 = .ok (.aload_n 0, 1) := by decide +kernel
theorem dX6_byteAt_7 : decode cX6_byteAt 7 = .ok (.aload_n 3, 1) := by decide +kernel
theorem dX6_byteAt_8 : decode cX6_byteAt 8 = .ok (.iload_n 2, 1) := by decide +kernel
theorem dX6_byteAt_9 : decode cX6_byteAt 9 = .ok (.invokevirtual 213, 3) := by decide +kernel
theorem dX6_byteAt_12 : decode cX6_byteAt 12 = .ok (.aload_n 3, 1) := by decide +kernel
theorem dX6_byteAt_13 : decode cX6_byteAt 13 = .ok (.iload_n 2, 1) := by decide +kernel
theorem dX6_byteAt_14 : decode cX6_byteAt 14 = .ok (.invokevirtual 116, 3) := by decide +kernel
theorem dX6_byteAt_17 : decode cX6_byteAt 17 = .ok (.ireturn, 1) := by decide +kernel
theorem dX6_byteByNodes_0 : decode cX6_byteByNodes 0 = .ok (.aload_n 0, 1) := by decide +kernel
theorem dX6_byteByNodes_1 : decode cX6_byteByNodes 1 = .ok (.aload_n 0, 1) := by decide +kernel
theorem dX6_byteByNodes_2 : decode cX6_byteByNodes 2 = .ok (.iload_n 1, 1) := by decide +kernel
theorem dX6_byteByNodes_3 : decode cX6_byteByNodes 3 = .ok (.invokevirtual 93, 3) := by decide +kernel
theorem dX6_byteByNodes_6 : decode cX6_byteByNodes 6 = .ok (.iload_n 2, 1) := by decide +kernel
theorem dX6_byteByNodes_7 : decode cX6_byteByNodes 7 = .ok (.invokevirtual 213, 3) := by decide +kernel
theorem dX6_byteByNodes_10 : decode cX6_byteByNodes 10 = .ok (.aload_n 0, 1) := by decide +kernel
theorem dX6_byteByNodes_11 : decode cX6_byteByNodes 11 = .ok (.getfield 10, 3) := by decide +kernel
theorem dX6_byteByNodes_14 : decode cX6_byteByNodes 14 = .ok (.iconst 1, 1) := by decide +kernel
theorem dX6_byteByNodes_15 : decode cX6_byteByNodes 15 = .ok (.iload_n 1, 1) := by decide +kernel
theorem dX6_byteByNodes_16 : decode cX6_byteByNodes 16 = .ok (.iload_n 2, 1) := by decide +kernel
theorem dX6_byteByNodes_17 : decode cX6_byteByNodes 17 = .ok (.ldc 216, 2) := by decide +kernel
theorem dX6_byteByNodes_19 : decode cX6_byteByNodes 19 = .ok (.invokevirtual 217, 3) := by decide +kernel
theorem dX6_byteByNodes_22 : decode cX6_byteByNodes 22 = .ok (.astore_n 3, 1) := by decide +kernel
theorem dX6_byteByNodes_23 : decode cX6_byteByNodes 23 = .ok (.aload_n 3, 1) := by decide +kernel
theorem dX6_byteByNodes_24 : decode cX6_byteByNodes 24 = .ok (.ifnonnull 7, 3) := by decide +kernel
theorem dX6_byteByNodes_27 : decode cX6_byteByNodes 27 = .ok (.iconst 0, 1) := by decide +kernel
theorem dX6_byteByNodes_28 : decode cX6_byteByNodes 28 = .ok (.goto 8, 3) := by decide +kernel
theorem dX6_byteByNodes_31 : decode cX6_byteByNodes 31 = .ok (.aload_n 3, 1) := by decide +kernel
theorem dX6_byteByNodes_32 : decode cX6_byteByNodes 32 = .ok (.iload_n 2, 1) := by decide +kernel
theorem dX6_byteByNodes_33 : decode cX6_byteByNodes 33 = .ok (.invokevirtual 221, 3) := by decide +kernel
theorem dX6_byteByNodes_36 : decode cX6_byteByNodes 36 = .ok (.ireturn, 1) := by decide +kernel
theorem dX6_state_0 : decode cX6_state 0 = .ok (.aload_n 0, 1) := by decide +kernel
theorem dX6_state_1 : decode cX6_state 1 = .ok (.invokevirtual 157, 3) := by decide +kernel
theorem dX6_state_4 : decode cX6_state 4 = .ok (.aload_n 0, 1) := by decide +kernel
theorem dX6_state_5 : decode cX6_state 5 = .ok (.iload_n 1, 1) := by decide +kernel
theorem dX6_state_6 : decode cX6_state 6 = .ok (.invokevirtual 224, 3) := by decide +kernel
theorem dX6_state_9 : decode cX6_state 9 = .ok (.aload_n 0, 1) := by decide +kernel
theorem dX6_state_10 : decode cX6_state 10 = .ok (.getfield 21, 3) := by decide +kernel
theorem dX6_state_13 : decode cX6_state 13 = .ok (.iload_n 1, 1) := by decide +kernel
theorem dX6_state_14 : decode cX6_state 14 = .ok (.invokevirtual 227, 3) := by decide +kernel
theorem dX6_state_17 : decode cX6_state 17 = .ok (.ifCond .eq 5, 3) := by decide +kernel
theorem dX6_state_20 : decode cX6_state 20 = .ok (.iconst 0, 1) := by decide +kernel
theorem dX6_state_21 : decode cX6_state 21 = .ok (.ireturn, 1) := by decide +kernel
theorem dX6_state_22 : decode cX6_state 22 = .ok (.iload_n 1, 1) := by decide +kernel
theorem dX6_state_23 : decode cX6_state 23 = .ok (.aload_n 0, 1) := by decide +kernel
theorem dX6_state_24 : decode cX6_state 24 = .ok (.getfield 21, 3) := by decide +kernel
theorem dX6_state_27 : decode cX6_state 27 = .ok (.getfield 230, 3) := by decide +kernel
theorem dX6_state_30 : decode cX6_state 30 = .ok (.if_icmp .ne 7, 3) := by decide +kernel
theorem dX6_state_33 : decode cX6_state 33 = .ok (.iconst 1, 1) := by decide +kernel
theorem dX6_state_34 : decode cX6_state 34 = .ok (.goto 11, 3) := by decide +kernel
theorem dX6_state_37 : decode cX6_state 37 = .ok (.aload_n 0, 1) := by decide +kernel
theorem dX6_state_38 : decode cX6_state 38 = .ok (.getfield 37, 3) := by decide +kernel
theorem dX6_state_41 : decode cX6_state 41 = .ok (.iload_n 1, 1) := by decide +kernel
theorem dX6_state_42 : decode cX6_state 42 = .ok (.invokevirtual 233, 3) := by decide +kernel
theorem dX6_state_45 : decode cX6_state 45 = .ok (.ireturn, 1) := by decide +kernel
theorem dX6_refuseInDark_0 : decode cX6_refuseInDark 0 = .ok (.aload_n 0, 1) := by decide +kernel
theorem dX6_refuseInDark_1 : decode cX6_refuseInDark 1 = .ok (.getfield 10, 3) := by decide +kernel
theorem dX6_refuseInDark_4 : decode cX6_refuseInDark 4 = .ok (.getfield 190, 3) := by decide +kernel
theorem dX6_refuseInDark_7 : decode cX6_refuseInDark 7 = .ok (.ifCond .eq 14, 3) := by decide +kernel
theorem dX6_refuseInDark_10 : decode cX6_refuseInDark 10 = .ok (.new 106, 3) := by decide +kernel
theorem dX6_refuseInDark_13 : decode cX6_refuseInDark 13 = .ok (.dup, 1) := by decide +kernel
theorem dX6_refuseInDark_14 : decode cX6_refuseInDark 14 = .ok (.ldc_w 273, 3) := by decide +kernel
theorem dX6_refuseInDark_17 : decode cX6_refuseInDark 17 = .ok (.invokespecial 110, 3) := by decide +kernel
theorem dX6_refuseInDark_20 : decode cX6_refuseInDark 20 = .ok (.athrow, 1) := by decide +kernel
theorem dX6_refuseInDark_21 : decode cX6_refuseInDark 21 = .ok (.return_, 1) := by decide +kernel
theorem dX6_itemThere_0 : decode cX6_itemThere 0 = .ok (.aload_n 0, 1) := by decide +kernel
theorem dX6_itemThere_1 : decode cX6_itemThere 1 = .ok (.invokevirtual 157, 3) := by decide +kernel
theorem dX6_itemThere_4 : decode cX6_itemThere 4 = .ok (.aload_n 0, 1) := by decide +kernel
theorem dX6_itemThere_5 : decode cX6_itemThere 5 = .ok (.getfield 28, 3) := by decide +kernel
theorem dX6_itemThere_8 : decode cX6_itemThere 8 = .ok (.iload_n 1, 1) := by decide +kernel
theorem dX6_itemThere_9 : decode cX6_itemThere 9 = .ok (.invokevirtual 120, 3) := by decide +kernel
theorem dX6_itemThere_12 : decode cX6_itemThere 12 = .ok (.astore_n 2, 1) := by decide +kernel
theorem dX6_itemThere_13 : decode cX6_itemThere 13 = .ok (.aload_n 2, 1) := by decide +kernel
theorem dX6_itemThere_14 : decode cX6_itemThere 14 = .ok (.ifnonnull 14, 3) := by decide +kernel
theorem dX6_itemThere_17 : decode cX6_itemThere 17 = .ok (.new 202, 3) := by decide +kernel
theorem dX6_itemThere_20 : decode cX6_itemThere 20 = .ok (.dup, 1) := by decide +kernel
theorem dX6_itemThere_21 : decode cX6_itemThere 21 = .ok (.ldc_w 275, 3) := by decide +kernel
theorem dX6_itemThere_24 : decode cX6_itemThere 24 = .ok (.invokespecial 206, 3) := by decide +kernel
theorem dX6_itemThere_27 : decode cX6_itemThere 27 = .ok (.athrow, 1) := by decide +kernel
theorem dX6_itemThere_28 : decode cX6_itemThere 28 = .ok (.aload_n 2, 1) := by decide +kernel
theorem dX6_itemThere_29 : decode cX6_itemThere 29 = .ok (.areturn, 1) := by decide +kernel
theorem dX6_directoryThere_0 : decode cX6_directoryThere 0 = .ok (.aload_n 0, 1) := by decide +kernel
theorem dX6_directoryThere_1 : decode cX6_directoryThere 1 = .ok (.iload_n 1, 1) := by decide +kernel
theorem dX6_directoryThere_2 : decode cX6_directoryThere 2 = .ok (.invokevirtual 210, 3) := by decide +kernel
theorem dX6_directoryThere_5 : decode cX6_directoryThere 5 = .ok (.astore_n 2, 1) := by decide +kernel
theorem dX6_directoryThere_6 : decode cX6_directoryThere 6 = .ok (.aload_n 2, 1) := by decide +kernel
theorem dX6_directoryThere_7 : decode cX6_directoryThere 7 = .ok (.getfield 127, 3) := by decide +kernel
theorem dX6_directoryThere_10 : decode cX6_directoryThere 10 = .ok (.ifCond .ne 14, 3) := by decide +kernel
theorem dX6_directoryThere_13 : decode cX6_directoryThere 13 = .ok (.new 202, 3) := by decide +kernel
theorem dX6_directoryThere_16 : decode cX6_directoryThere 16 = .ok (.dup, 1) := by decide +kernel
theorem dX6_directoryThere_17 : decode cX6_directoryThere 17 = .ok (.ldc_w 277, 3) := by decide +kernel
theorem dX6_directoryThere_20 : decode cX6_directoryThere 20 = .ok (.invokespecial 206, 3) := by decide +kernel
theorem dX6_directoryThere_23 : decode cX6_directoryThere 23 = .ok (.athrow, 1) := by decide +kernel
theorem dX6_directoryThere_24 : decode cX6_directoryThere 24 = .ok (.aload_n 2, 1) := by decide +kernel
theorem dX6_directoryThere_25 : decode cX6_directoryThere 25 = .ok (.areturn, 1) := by decide +kernel
theorem dX6_fileThere_0 : decode cX6_fileThere 0 = .ok (.aload_n 0, 1) := by decide +kernel
theorem dX6_fileThere_1 : decode cX6_fileThere 1 = .ok (.iload_n 1, 1) := by decide +kernel
theorem dX6_fileThere_2 : decode cX6_fileThere 2 = .ok (.invokevirtual 210, 3) := by decide +kernel
theorem dX6_fileThere_5 : decode cX6_fileThere 5 = .ok (.astore_n 2, 1) := by decide +kernel
theorem dX6_fileThere_6 : decode cX6_fileThere 6 = .ok (.aload_n 2, 1) := by decide +kernel
theorem dX6_fileThere_7 : decode cX6_fileThere 7 = .ok (.getfield 127, 3) := by decide +kernel
theorem dX6_fileThere_10 : decode cX6_fileThere 10 = .ok (.ifCond .eq 14, 3) := by decide +kernel
theorem dX6_fileThere_13 : decode cX6_fileThere 13 = .ok (.new 202, 3) := by decide +kernel
theorem dX6_fileThere_16 : decode cX6_fileThere 16 = .ok (.dup, 1) := by decide +kernel
theorem dX6_fileThere_17 : decode cX6_fileThere 17 = .ok (.ldc_w 279, 3) := by decide +kernel
theorem dX6_fileThere_20 : decode cX6_fileThere 20 = .ok (.invokespecial 206, 3) := by decide +kernel
theorem dX6_fileThere_23 : decode cX6_fileThere 23 = .ok (.athrow, 1) := by decide +kernel
theorem dX6_fileThere_24 : decode cX6_fileThere 24 = .ok (.aload_n 2, 1) := by decide +kernel
theorem dX6_fileThere_25 : decode cX6_fileThere 25 = .ok (.areturn, 1) := by decide +kernel
theorem dX6_itemNamed_0 : decode cX6_itemNamed 0 = .ok (.aload_n 0, 1) := by decide +kernel
theorem dX6_itemNamed_1 : decode cX6_itemNamed 1 = .ok (.getfield 28, 3) := by decide +kernel
theorem dX6_itemNamed_4 : decode cX6_itemNamed 4 = .ok (.aload_n 1, 1) := by decide +kernel
theorem dX6_itemNamed_5 : decode cX6_itemNamed 5 = .ok (.iload_n 2, 1) := by decide +kernel
theorem dX6_itemNamed_6 : decode cX6_itemNamed 6 = .ok (.invokevirtual 116, 3) := by decide +kernel
theorem dX6_itemNamed_9 : decode cX6_itemNamed 9 = .ok (.invokevirtual 120, 3) := by decide +kernel
theorem dX6_itemNamed_12 : decode cX6_itemNamed 12 = .ok (.astore_n 3, 1) := by decide +kernel
theorem dX6_itemNamed_13 : decode cX6_itemNamed 13 = .ok (.aload_n 3, 1) := by decide +kernel
theorem dX6_itemNamed_14 : decode cX6_itemNamed 14 = .ok (.ifnonnull 14, 3) := by decide +kernel
theorem dX6_itemNamed_17 : decode cX6_itemNamed 17 = .ok (.new 106, 3) := by decide +kernel
theorem dX6_itemNamed_20 : decode cX6_itemNamed 20 = .ok (.dup, 1) := by decide +kernel
theorem dX6_itemNamed_21 : decode cX6_itemNamed 21 = .ok (.ldc_w 281, 3) := by decide +kernel
theorem dX6_itemNamed_24 : decode cX6_itemNamed 24 = .ok (.invokespecial 110, 3) := by decide +kernel
theorem dX6_itemNamed_27 : decode cX6_itemNamed 27 = .ok (.athrow, 1) := by decide +kernel
theorem dX6_itemNamed_28 : decode cX6_itemNamed 28 = .ok (.aload_n 3, 1) := by decide +kernel
theorem dX6_itemNamed_29 : decode cX6_itemNamed 29 = .ok (.areturn, 1) := by decide +kernel
theorem dX6_refuseWrongName_0 : decode cX6_refuseWrongName 0 = .ok (.iload_n 1, 1) := by decide +kernel
theorem dX6_refuseWrongName_1 : decode cX6_refuseWrongName 1 = .ok (.iconst 1, 1) := by decide +kernel
theorem dX6_refuseWrongName_2 : decode cX6_refuseWrongName 2 = .ok (.if_icmp .lt 9, 3) := by decide +kernel
theorem dX6_refuseWrongName_5 : decode cX6_refuseWrongName 5 = .ok (.iload_n 1, 1) := by decide +kernel
theorem dX6_refuseWrongName_6 : decode cX6_refuseWrongName 6 = .ok (.bipush 99, 2) := by decide +kernel
theorem dX6_refuseWrongName_8 : decode cX6_refuseWrongName 8 = .ok (.if_icmp .le 14, 3) := by decide +kernel
theorem dX6_refuseWrongName_11 : decode cX6_refuseWrongName 11 = .ok (.new 131, 3) := by decide +kernel
theorem dX6_refuseWrongName_14 : decode cX6_refuseWrongName 14 = .ok (.dup, 1) := by decide +kernel
theorem dX6_refuseWrongName_15 : decode cX6_refuseWrongName 15 = .ok (.ldc_w 283, 3) := by decide +kernel
theorem dX6_refuseWrongName_18 : decode cX6_refuseWrongName 18 = .ok (.invokespecial 135, 3) := by decide +kernel
theorem dX6_refuseWrongName_21 : decode cX6_refuseWrongName 21 = .ok (.athrow, 1) := by decide +kernel
theorem dX6_refuseWrongName_22 : decode cX6_refuseWrongName 22 = .ok (.return_, 1) := by decide +kernel
theorem dX6_refuseTakenName_0 : decode cX6_refuseTakenName 0 = .ok (.aload_n 1, 1) := by decide +kernel
theorem dX6_refuseTakenName_1 : decode cX6_refuseTakenName 1 = .ok (.iload_n 2, 1) := by decide +kernel
theorem dX6_refuseTakenName_2 : decode cX6_refuseTakenName 2 = .ok (.invokevirtual 116, 3) := by decide +kernel
theorem dX6_refuseTakenName_5 : decode cX6_refuseTakenName 5 = .ok (.ifCond .eq 14, 3) := by decide +kernel
theorem dX6_refuseTakenName_8 : decode cX6_refuseTakenName 8 = .ok (.new 106, 3) := by decide +kernel
theorem dX6_refuseTakenName_11 : decode cX6_refuseTakenName 11 = .ok (.dup, 1) := by decide +kernel
theorem dX6_refuseTakenName_12 : decode cX6_refuseTakenName 12 = .ok (.ldc_w 285, 3) := by decide +kernel
theorem dX6_refuseTakenName_15 : decode cX6_refuseTakenName 15 = .ok (.invokespecial 110, 3) := by decide +kernel
theorem dX6_refuseTakenName_18 : decode cX6_refuseTakenName 18 = .ok (.athrow, 1) := by decide +kernel
theorem dX6_refuseTakenName_19 : decode cX6_refuseTakenName 19 = .ok (.return_, 1) := by decide +kernel
theorem dX6_refuseWrongMove_0 : decode cX6_refuseWrongMove 0 = .ok (.aload_n 3, 1) := by decide +kernel
theorem dX6_refuseWrongMove_1 : decode cX6_refuseWrongMove 1 = .ok (.aload_n 1, 1) := by decide +kernel
theorem dX6_refuseWrongMove_2 : decode cX6_refuseWrongMove 2 = .ok (.if_acmp .ne 14, 3) := by decide +kernel
theorem dX6_refuseWrongMove_5 : decode cX6_refuseWrongMove 5 = .ok (.new 106, 3) := by decide +kernel
theorem dX6_refuseWrongMove_8 : decode cX6_refuseWrongMove 8 = .ok (.dup, 1) := by decide +kernel
theorem dX6_refuseWrongMove_9 : decode cX6_refuseWrongMove 9 = .ok (.ldc_w 287, 3) := by decide +kernel
theorem dX6_refuseWrongMove_12 : decode cX6_refuseWrongMove 12 = .ok (.invokespecial 110, 3) := by decide +kernel
theorem dX6_refuseWrongMove_15 : decode cX6_refuseWrongMove 15 = .ok (.athrow, 1) := by decide +kernel
theorem dX6_refuseWrongMove_16 : decode cX6_refuseWrongMove 16 = .ok (.aload_n 3, 1) := by decide +kernel
theorem dX6_refuseWrongMove_17 : decode cX6_refuseWrongMove 17 = .ok (.ifnull 28, 3) := by decide +kernel
theorem dX6_refuseWrongMove_20 : decode cX6_refuseWrongMove 20 = .ok (.aload_n 3, 1) := by decide +kernel
theorem dX6_refuseWrongMove_21 : decode cX6_refuseWrongMove 21 = .ok (.getfield 127, 3) := by decide +kernel
theorem dX6_refuseWrongMove_24 : decode cX6_refuseWrongMove 24 = .ok (.ifCond .ne 10, 3) := by decide +kernel
theorem dX6_refuseWrongMove_27 : decode cX6_refuseWrongMove 27 = .ok (.aload_n 1, 1) := by decide +kernel
theorem dX6_refuseWrongMove_28 : decode cX6_refuseWrongMove 28 = .ok (.getfield 127, 3) := by decide +kernel
theorem dX6_refuseWrongMove_31 : decode cX6_refuseWrongMove 31 = .ok (.ifCond .eq 14, 3) := by decide +kernel
theorem dX6_refuseWrongMove_34 : decode cX6_refuseWrongMove 34 = .ok (.new 106, 3) := by decide +kernel
theorem dX6_refuseWrongMove_37 : decode cX6_refuseWrongMove 37 = .ok (.dup, 1) := by decide +kernel
theorem dX6_refuseWrongMove_38 : decode cX6_refuseWrongMove 38 = .ok (.ldc_w 289, 3) := by decide +kernel
theorem dX6_refuseWrongMove_41 : decode cX6_refuseWrongMove 41 = .ok (.invokespecial 110, 3) := by decide +kernel
theorem dX6_refuseWrongMove_44 : decode cX6_refuseWrongMove 44 = .ok (.athrow, 1) := by decide +kernel
theorem dX6_refuseWrongMove_45 : decode cX6_refuseWrongMove 45 = .ok (.aload_n 1, 1) := by decide +kernel
theorem dX6_refuseWrongMove_46 : decode cX6_refuseWrongMove 46 = .ok (.getfield 127, 3) := by decide +kernel
theorem dX6_refuseWrongMove_49 : decode cX6_refuseWrongMove 49 = .ok (.ifCond .eq 26, 3) := by decide +kernel
theorem dX6_refuseWrongMove_52 : decode cX6_refuseWrongMove 52 = .ok (.aload_n 0, 1) := by decide +kernel
theorem dX6_refuseWrongMove_53 : decode cX6_refuseWrongMove 53 = .ok (.getfield 28, 3) := by decide +kernel
theorem dX6_refuseWrongMove_56 : decode cX6_refuseWrongMove 56 = .ok (.aload_n 1, 1) := by decide +kernel
theorem dX6_refuseWrongMove_57 : decode cX6_refuseWrongMove 57 = .ok (.aload_n 2, 1) := by decide +kernel
theorem dX6_refuseWrongMove_58 : decode cX6_refuseWrongMove 58 = .ok (.invokevirtual 291, 3) := by decide +kernel
theorem dX6_refuseWrongMove_61 : decode cX6_refuseWrongMove 61 = .ok (.ifCond .eq 14, 3) := by decide +kernel
theorem dX6_refuseWrongMove_64 : decode cX6_refuseWrongMove 64 = .ok (.new 106, 3) := by decide +kernel
theorem dX6_refuseWrongMove_67 : decode cX6_refuseWrongMove 67 = .ok (.dup, 1) := by decide +kernel
theorem dX6_refuseWrongMove_68 : decode cX6_refuseWrongMove 68 = .ok (.ldc_w 295, 3) := by decide +kernel
theorem dX6_refuseWrongMove_71 : decode cX6_refuseWrongMove 71 = .ok (.invokespecial 110, 3) := by decide +kernel
theorem dX6_refuseWrongMove_74 : decode cX6_refuseWrongMove 74 = .ok (.athrow, 1) := by decide +kernel
theorem dX6_refuseWrongMove_75 : decode cX6_refuseWrongMove 75 = .ok (.return_, 1) := by decide +kernel
theorem dX6_refuseWrongPlace_0 : decode cX6_refuseWrongPlace 0 = .ok (.iload_n 2, 1) := by decide +kernel
theorem dX6_refuseWrongPlace_1 : decode cX6_refuseWrongPlace 1 = .ok (.ifCond .lt 11, 3) := by decide +kernel
theorem dX6_refuseWrongPlace_4 : decode cX6_refuseWrongPlace 4 = .ok (.iload_n 2, 1) := by decide +kernel
theorem dX6_refuseWrongPlace_5 : decode cX6_refuseWrongPlace 5 = .ok (.aload_n 1, 1) := by decide +kernel
theorem dX6_refuseWrongPlace_6 : decode cX6_refuseWrongPlace 6 = .ok (.getfield 138, 3) := by decide +kernel
theorem dX6_refuseWrongPlace_9 : decode cX6_refuseWrongPlace 9 = .ok (.if_icmp .lt 14, 3) := by decide +kernel
theorem dX6_refuseWrongPlace_12 : decode cX6_refuseWrongPlace 12 = .ok (.new 202, 3) := by decide +kernel
theorem dX6_refuseWrongPlace_15 : decode cX6_refuseWrongPlace 15 = .ok (.dup, 1) := by decide +kernel
theorem dX6_refuseWrongPlace_16 : decode cX6_refuseWrongPlace 16 = .ok (.ldc_w 297, 3) := by decide +kernel
theorem dX6_refuseWrongPlace_19 : decode cX6_refuseWrongPlace 19 = .ok (.invokespecial 206, 3) := by decide +kernel
theorem dX6_refuseWrongPlace_22 : decode cX6_refuseWrongPlace 22 = .ok (.athrow, 1) := by decide +kernel
theorem dX6_refuseWrongPlace_23 : decode cX6_refuseWrongPlace 23 = .ok (.return_, 1) := by decide +kernel
theorem dX6_refuseWrongBlock_0 : decode cX6_refuseWrongBlock 0 = .ok (.iload_n 1, 1) := by decide +kernel
theorem dX6_refuseWrongBlock_1 : decode cX6_refuseWrongBlock 1 = .ok (.ifCond .lt 9, 3) := by decide +kernel
theorem dX6_refuseWrongBlock_4 : decode cX6_refuseWrongBlock 4 = .ok (.iload_n 1, 1) := by decide +kernel
theorem dX6_refuseWrongBlock_5 : decode cX6_refuseWrongBlock 5 = .ok (.bipush 8, 2) := by decide +kernel
theorem dX6_refuseWrongBlock_7 : decode cX6_refuseWrongBlock 7 = .ok (.if_icmp .lt 14, 3) := by decide +kernel
theorem dX6_refuseWrongBlock_10 : decode cX6_refuseWrongBlock 10 = .ok (.new 202, 3) := by decide +kernel
theorem dX6_refuseWrongBlock_13 : decode cX6_refuseWrongBlock 13 = .ok (.dup, 1) := by decide +kernel
theorem dX6_refuseWrongBlock_14 : decode cX6_refuseWrongBlock 14 = .ok (.ldc_w 299, 3) := by decide +kernel
theorem dX6_refuseWrongBlock_17 : decode cX6_refuseWrongBlock 17 = .ok (.invokespecial 206, 3) := by decide +kernel
theorem dX6_refuseWrongBlock_20 : decode cX6_refuseWrongBlock 20 = .ok (.athrow, 1) := by decide +kernel
theorem dX6_refuseWrongBlock_21 : decode cX6_refuseWrongBlock 21 = .ok (.return_, 1) := by decide +kernel
theorem dX6_refuseWithoutRoom_0 : decode cX6_refuseWithoutRoom 0 = .ok (.aload_n 0, 1) := by decide +kernel
theorem dX6_refuseWithoutRoom_1 : decode cX6_refuseWithoutRoom 1 = .ok (.getfield 21, 3) := by decide +kernel
theorem dX6_refuseWithoutRoom_4 : decode cX6_refuseWithoutRoom 4 = .ok (.aload_n 0, 1) := by decide +kernel
theorem dX6_refuseWithoutRoom_5 : decode cX6_refuseWithoutRoom 5 = .ok (.getfield 21, 3) := by decide +kernel
theorem dX6_refuseWithoutRoom_8 : decode cX6_refuseWithoutRoom 8 = .ok (.getfield 301, 3) := by decide +kernel
theorem dX6_refuseWithoutRoom_11 : decode cX6_refuseWithoutRoom 11 = .ok (.iconst 1, 1) := by decide +kernel
theorem dX6_refuseWithoutRoom_12 : decode cX6_refuseWithoutRoom 12 = .ok (.isub, 1) := by decide +kernel
theorem dX6_refuseWithoutRoom_13 : decode cX6_refuseWithoutRoom 13 = .ok (.invokevirtual 304, 3) := by decide +kernel
theorem dX6_refuseWithoutRoom_16 : decode cX6_refuseWithoutRoom 16 = .ok (.aload_n 0, 1) := by decide +kernel
theorem dX6_refuseWithoutRoom_17 : decode cX6_refuseWithoutRoom 17 = .ok (.getfield 21, 3) := by decide +kernel
theorem dX6_refuseWithoutRoom_20 : decode cX6_refuseWithoutRoom 20 = .ok (.iload_n 1, 1) := by decide +kernel
theorem dX6_refuseWithoutRoom_21 : decode cX6_refuseWithoutRoom 21 = .ok (.invokevirtual 307, 3) := by decide +kernel
theorem dX6_refuseWithoutRoom_24 : decode cX6_refuseWithoutRoom 24 = .ok (.ifCond .eq 18, 3) := by decide +kernel
theorem dX6_refuseWithoutRoom_27 : decode cX6_refuseWithoutRoom 27 = .ok (.iload_n 2, 1) := by decide +kernel
theorem dX6_refuseWithoutRoom_28 : decode cX6_refuseWithoutRoom 28 = .ok (.ifCond .eq 25, 3) := by decide +kernel
theorem dX6_refuseWithoutRoom_31 : decode cX6_refuseWithoutRoom 31 = .ok (.aload_n 0, 1) := by decide +kernel
theorem dX6_refuseWithoutRoom_32 : decode cX6_refuseWithoutRoom 32 = .ok (.getfield 21, 3) := by decide +kernel
theorem dX6_refuseWithoutRoom_35 : decode cX6_refuseWithoutRoom 35 = .ok (.iload_n 2, 1) := by decide +kernel
theorem dX6_refuseWithoutRoom_36 : decode cX6_refuseWithoutRoom 36 = .ok (.invokevirtual 307, 3) := by decide +kernel
theorem dX6_refuseWithoutRoom_39 : decode cX6_refuseWithoutRoom 39 = .ok (.ifCond .ne 14, 3) := by decide +kernel
theorem dX6_refuseWithoutRoom_42 : decode cX6_refuseWithoutRoom 42 = .ok (.new 106, 3) := by decide +kernel
theorem dX6_refuseWithoutRoom_45 : decode cX6_refuseWithoutRoom 45 = .ok (.dup, 1) := by decide +kernel
theorem dX6_refuseWithoutRoom_46 : decode cX6_refuseWithoutRoom 46 = .ok (.ldc_w 310, 3) := by decide +kernel
theorem dX6_refuseWithoutRoom_49 : decode cX6_refuseWithoutRoom 49 = .ok (.invokespecial 110, 3) := by decide +kernel
theorem dX6_refuseWithoutRoom_52 : decode cX6_refuseWithoutRoom 52 = .ok (.athrow, 1) := by decide +kernel
theorem dX6_refuseWithoutRoom_53 : decode cX6_refuseWithoutRoom 53 = .ok (.return_, 1) := by decide +kernel
theorem dX6_refuseWithoutRoomFor_0 : decode cX6_refuseWithoutRoomFor 0 = .ok (.aload_n 0, 1) := by decide +kernel
theorem dX6_refuseWithoutRoomFor_1 : decode cX6_refuseWithoutRoomFor 1 = .ok (.getfield 21, 3) := by decide +kernel
theorem dX6_refuseWithoutRoomFor_4 : decode cX6_refuseWithoutRoomFor 4 = .ok (.aload_n 0, 1) := by decide +kernel
theorem dX6_refuseWithoutRoomFor_5 : decode cX6_refuseWithoutRoomFor 5 = .ok (.getfield 21, 3) := by decide +kernel
theorem dX6_refuseWithoutRoomFor_8 : decode cX6_refuseWithoutRoomFor 8 = .ok (.getfield 301, 3) := by decide +kernel
theorem dX6_refuseWithoutRoomFor_11 : decode cX6_refuseWithoutRoomFor 11 = .ok (.invokevirtual 304, 3) := by decide +kernel
theorem dX6_refuseWithoutRoomFor_14 : decode cX6_refuseWithoutRoomFor 14 = .ok (.iconst 0, 1) := by decide +kernel
theorem dX6_refuseWithoutRoomFor_15 : decode cX6_refuseWithoutRoomFor 15 = .ok (.istore_n 2, 1) := by decide +kernel
theorem dX6_refuseWithoutRoomFor_16 : decode cX6_refuseWithoutRoomFor 16 = .ok (.iload_n 2, 1) := by decide +kernel
theorem dX6_refuseWithoutRoomFor_17 : decode cX6_refuseWithoutRoomFor 17 = .ok (.iload_n 1, 1) := by decide +kernel
theorem dX6_refuseWithoutRoomFor_18 : decode cX6_refuseWithoutRoomFor 18 = .ok (.if_icmp .ge 41, 3) := by decide +kernel
theorem dX6_refuseWithoutRoomFor_21 : decode cX6_refuseWithoutRoomFor 21 = .ok (.aload_n 0, 1) := by decide +kernel
theorem dX6_refuseWithoutRoomFor_22 : decode cX6_refuseWithoutRoomFor 22 = .ok (.getfield 21, 3) := by decide +kernel
theorem dX6_refuseWithoutRoomFor_25 : decode cX6_refuseWithoutRoomFor 25 = .ok (.aload_n 0, 1) := by decide +kernel
theorem dX6_refuseWithoutRoomFor_26 : decode cX6_refuseWithoutRoomFor 26 = .ok (.getfield 37, 3) := by decide +kernel
theorem dX6_refuseWithoutRoomFor_29 : decode cX6_refuseWithoutRoomFor 29 = .ok (.iload_n 2, 1) := by decide +kernel
theorem dX6_refuseWithoutRoomFor_30 : decode cX6_refuseWithoutRoomFor 30 = .ok (.invokevirtual 173, 3) := by decide +kernel
theorem dX6_refuseWithoutRoomFor_33 : decode cX6_refuseWithoutRoomFor 33 = .ok (.getfield 312, 3) := by decide +kernel
theorem dX6_refuseWithoutRoomFor_36 : decode cX6_refuseWithoutRoomFor 36 = .ok (.invokevirtual 307, 3) := by decide +kernel
theorem dX6_refuseWithoutRoomFor_39 : decode cX6_refuseWithoutRoomFor 39 = .ok (.ifCond .ne 14, 3) := by decide +kernel
theorem dX6_refuseWithoutRoomFor_42 : decode cX6_refuseWithoutRoomFor 42 = .ok (.new 106, 3) := by decide +kernel
theorem dX6_refuseWithoutRoomFor_45 : decode cX6_refuseWithoutRoomFor 45 = .ok (.dup, 1) := by decide +kernel
theorem dX6_refuseWithoutRoomFor_46 : decode cX6_refuseWithoutRoomFor 46 = .ok (.ldc_w 315, 3) := by decide +kernel
theorem dX6_refuseWithoutRoomFor_49 : decode cX6_refuseWithoutRoomFor 49 = .ok (.invokespecial 110, 3) := by decide +kernel
theorem dX6_refuseWithoutRoomFor_52 : decode cX6_refuseWithoutRoomFor 52 = .ok (.athrow, 1) := by decide +kernel
theorem dX6_refuseWithoutRoomFor_53 : decode cX6_refuseWithoutRoomFor 53 = .ok (.iinc 2 1, 3) := by decide +kernel
theorem dX6_refuseWithoutRoomFor_56 : decode cX6_refuseWithoutRoomFor 56 = .ok (.goto (-40), 3) := by decide +kernel
theorem dX6_refuseWithoutRoomFor_59 : decode cX6_refuseWithoutRoomFor 59 = .ok (.return_, 1) := by decide +kernel
theorem dX6_putName_0 : decode cX6_putName 0 = .ok (.aload_n 1, 1) := by decide +kernel
theorem dX6_putName_1 : decode cX6_putName 1 = .ok (.dup, 1) := by decide +kernel
theorem dX6_putName_2 : decode cX6_putName 2 = .ok (.getfield 84, 3) := by decide +kernel
theorem dX6_putName_5 : decode cX6_putName 5 = .ok (.iconst 1, 1) := by decide +kernel
theorem dX6_putName_6 : decode cX6_putName 6 = .ok (.iadd, 1) := by decide +kernel
theorem dX6_putName_7 : decode cX6_putName 7 = .ok (.putfield 84, 3) := by decide +kernel
theorem dX6_putName_10 : decode cX6_putName 10 = .ok (.aload_n 0, 1) := by decide +kernel
theorem dX6_putName_11 : decode cX6_putName 11 = .ok (.getfield 44, 3) := by decide +kernel
theorem dX6_putName_14 : decode cX6_putName 14 = .ok (.aload_n 1, 1) := by decide +kernel
theorem dX6_putName_15 : decode cX6_putName 15 = .ok (.getfield 113, 3) := by decide +kernel
theorem dX6_putName_18 : decode cX6_putName 18 = .ok (.aload_n 1, 1) := by decide +kernel
theorem dX6_putName_19 : decode cX6_putName 19 = .ok (.getfield 84, 3) := by decide +kernel
theorem dX6_putName_22 : decode cX6_putName 22 = .ok (.iload_n 2, 1) := by decide +kernel
theorem dX6_putName_23 : decode cX6_putName 23 = .ok (.iload_n 3, 1) := by decide +kernel
theorem dX6_putName_24 : decode cX6_putName 24 = .ok (.iload 4, 2) := by decide +kernel
theorem dX6_putName_26 : decode cX6_putName 26 = .ok (.invokevirtual 317, 3) := by decide +kernel
theorem dX6_putName_29 : decode cX6_putName 29 = .ok (.aload_n 0, 1) := by decide +kernel
theorem dX6_putName_30 : decode cX6_putName 30 = .ok (.getfield 21, 3) := by decide +kernel
theorem dX6_putName_33 : decode cX6_putName 33 = .ok (.aload_n 0, 1) := by decide +kernel
theorem dX6_putName_34 : decode cX6_putName 34 = .ok (.getfield 44, 3) := by decide +kernel
theorem dX6_putName_37 : decode cX6_putName 37 = .ok (.invokevirtual 72, 3) := by decide +kernel
theorem dX6_putName_40 : decode cX6_putName 40 = .ok (.ireturn, 1) := by decide +kernel
theorem dX6_putContent_0 : decode cX6_putContent 0 = .ok (.aload_n 0, 1) := by decide +kernel
theorem dX6_putContent_1 : decode cX6_putContent 1 = .ok (.getfield 21, 3) := by decide +kernel
theorem dX6_putContent_4 : decode cX6_putContent 4 = .ok (.aload_n 0, 1) := by decide +kernel
theorem dX6_putContent_5 : decode cX6_putContent 5 = .ok (.getfield 44, 3) := by decide +kernel
theorem dX6_putContent_8 : decode cX6_putContent 8 = .ok (.invokevirtual 72, 3) := by decide +kernel
theorem dX6_putContent_11 : decode cX6_putContent 11 = .ok (.ifCond .ne 5, 3) := by decide +kernel
theorem dX6_putContent_14 : decode cX6_putContent 14 = .ok (.iconst 0, 1) := by decide +kernel
theorem dX6_putContent_15 : decode cX6_putContent 15 = .ok (.ireturn, 1) := by decide +kernel
theorem dX6_putContent_16 : decode cX6_putContent 16 = .ok (.aload_n 1, 1) := by decide +kernel
theorem dX6_putContent_17 : decode cX6_putContent 17 = .ok (.aload_n 0, 1) := by decide +kernel
theorem dX6_putContent_18 : decode cX6_putContent 18 = .ok (.getfield 44, 3) := by decide +kernel
theorem dX6_putContent_21 : decode cX6_putContent 21 = .ok (.invokevirtual 321, 3) := by decide +kernel
theorem dX6_putContent_24 : decode cX6_putContent 24 = .ok (.iconst 1, 1) := by decide +kernel
theorem dX6_putContent_25 : decode cX6_putContent 25 = .ok (.ireturn, 1) := by decide +kernel
theorem dX6_victim_0 : decode cX6_victim 0 = .ok (.iload_n 1, 1) := by decide +kernel
theorem dX6_victim_1 : decode cX6_victim 1 = .ok (.bipush 64, 2) := by decide +kernel
theorem dX6_victim_3 : decode cX6_victim 3 = .ok (.if_icmp .ge 7, 3) := by decide +kernel
theorem dX6_victim_6 : decode cX6_victim 6 = .ok (.iconst 0, 1) := by decide +kernel
theorem dX6_victim_7 : decode cX6_victim 7 = .ok (.goto 14, 3) := by decide +kernel
theorem dX6_victim_10 : decode cX6_victim 10 = .ok (.iload_n 1, 1) := by decide +kernel
theorem dX6_victim_11 : decode cX6_victim 11 = .ok (.bipush 120, 2) := by decide +kernel
theorem dX6_victim_13 : decode cX6_victim 13 = .ok (.if_icmp .ge 7, 3) := by decide +kernel
theorem dX6_victim_16 : decode cX6_victim 16 = .ok (.iconst 1, 1) := by decide +kernel
theorem dX6_victim_17 : decode cX6_victim 17 = .ok (.goto 4, 3) := by decide +kernel
theorem dX6_victim_20 : decode cX6_victim 20 = .ok (.iconst 2, 1) := by decide +kernel
theorem dX6_victim_21 : decode cX6_victim 21 = .ok (.istore_n 2, 1) := by decide +kernel
theorem dX6_victim_22 : decode cX6_victim 22 = .ok (.iconst (-1), 1) := by decide +kernel
theorem dX6_victim_23 : decode cX6_victim 23 = .ok (.istore_n 3, 1) := by decide +kernel
theorem dX6_victim_24 : decode cX6_victim 24 = .ok (.iconst 3, 1) := by decide +kernel
theorem dX6_victim_25 : decode cX6_victim 25 = .ok (.istore 4, 2) := by decide +kernel
theorem dX6_victim_27 : decode cX6_victim 27 = .ok (.iconst 0, 1) := by decide +kernel
theorem dX6_victim_28 : decode cX6_victim 28 = .ok (.istore 5, 2) := by decide +kernel
theorem dX6_victim_30 : decode cX6_victim 30 = .ok (.iload 5, 2) := by decide +kernel
theorem dX6_victim_32 : decode cX6_victim 32 = .ok (.aload_n 0, 1) := by decide +kernel
theorem dX6_victim_33 : decode cX6_victim 33 = .ok (.getfield 21, 3) := by decide +kernel
theorem dX6_victim_36 : decode cX6_victim 36 = .ok (.getfield 325, 3) := by decide +kernel
theorem dX6_victim_39 : decode cX6_victim 39 = .ok (.if_icmp .ge 53, 3) := by decide +kernel
theorem dX6_victim_42 : decode cX6_victim 42 = .ok (.aload_n 0, 1) := by decide +kernel
theorem dX6_victim_43 : decode cX6_victim 43 = .ok (.getfield 21, 3) := by decide +kernel
theorem dX6_victim_46 : decode cX6_victim 46 = .ok (.iload 5, 2) := by decide +kernel
theorem dX6_victim_48 : decode cX6_victim 48 = .ok (.invokevirtual 328, 3) := by decide +kernel
theorem dX6_victim_51 : decode cX6_victim 51 = .ok (.istore 6, 2) := by decide +kernel
theorem dX6_victim_53 : decode cX6_victim 53 = .ok (.iconst 4, 1) := by decide +kernel
theorem dX6_victim_54 : decode cX6_victim 54 = .ok (.aload_n 0, 1) := by decide +kernel
theorem dX6_victim_55 : decode cX6_victim 55 = .ok (.getfield 37, 3) := by decide +kernel
theorem dX6_victim_58 : decode cX6_victim 58 = .ok (.iload 6, 2) := by decide +kernel
theorem dX6_victim_60 : decode cX6_victim 60 = .ok (.invokevirtual 233, 3) := by decide +kernel
theorem dX6_victim_63 : decode cX6_victim 63 = .ok (.isub, 1) := by decide +kernel
theorem dX6_victim_64 : decode cX6_victim 64 = .ok (.iload_n 2, 1) := by decide +kernel
theorem dX6_victim_65 : decode cX6_victim 65 = .ok (.isub, 1) := by decide +kernel
theorem dX6_victim_66 : decode cX6_victim 66 = .ok (.iconst 3, 1) := by decide +kernel
theorem dX6_victim_67 : decode cX6_victim 67 = .ok (.invokestatic 331, 3) := by decide +kernel
theorem dX6_victim_70 : decode cX6_victim 70 = .ok (.istore 7, 2) := by decide +kernel
theorem dX6_victim_72 : decode cX6_victim 72 = .ok (.iload 7, 2) := by decide +kernel
theorem dX6_victim_74 : decode cX6_victim 74 = .ok (.iload 4, 2) := by decide +kernel
theorem dX6_victim_76 : decode cX6_victim 76 = .ok (.if_icmp .ge 10, 3) := by decide +kernel
theorem dX6_victim_79 : decode cX6_victim 79 = .ok (.iload 6, 2) := by decide +kernel
theorem dX6_victim_81 : decode cX6_victim 81 = .ok (.istore_n 3, 1) := by decide +kernel
theorem dX6_victim_82 : decode cX6_victim 82 = .ok (.iload 7, 2) := by decide +kernel
theorem dX6_victim_84 : decode cX6_victim 84 = .ok (.istore 4, 2) := by decide +kernel
theorem dX6_victim_86 : decode cX6_victim 86 = .ok (.iinc 5 1, 3) := by decide +kernel
theorem dX6_victim_89 : decode cX6_victim 89 = .ok (.goto (-59), 3) := by decide +kernel
theorem dX6_victim_92 : decode cX6_victim 92 = .ok (.iload_n 3, 1) := by decide +kernel
theorem dX6_victim_93 : decode cX6_victim 93 = .ok (.ireturn, 1) := by decide +kernel
theorem dX6_unitsToRead_0 : decode cX6_unitsToRead 0 = .ok (.aload_n 0, 1) := by decide +kernel
theorem dX6_unitsToRead_1 : decode cX6_unitsToRead 1 = .ok (.getfield 10, 3) := by decide +kernel
theorem dX6_unitsToRead_4 : decode cX6_unitsToRead 4 = .ok (.iload_n 1, 1) := by decide +kernel
theorem dX6_unitsToRead_5 : decode cX6_unitsToRead 5 = .ok (.aload_n 0, 1) := by decide +kernel
theorem dX6_unitsToRead_6 : decode cX6_unitsToRead 6 = .ok (.getfield 10, 3) := by decide +kernel
theorem dX6_unitsToRead_9 : decode cX6_unitsToRead 9 = .ok (.iload_n 1, 1) := by decide +kernel
theorem dX6_unitsToRead_10 : decode cX6_unitsToRead 10 = .ok (.invokevirtual 242, 3) := by decide +kernel
theorem dX6_unitsToRead_13 : decode cX6_unitsToRead 13 = .ok (.iconst 1, 1) := by decide +kernel
theorem dX6_unitsToRead_14 : decode cX6_unitsToRead 14 = .ok (.isub, 1) := by decide +kernel
theorem dX6_unitsToRead_15 : decode cX6_unitsToRead 15 = .ok (.invokevirtual 247, 3) := by decide +kernel
theorem dX6_unitsToRead_18 : decode cX6_unitsToRead 18 = .ok (.astore_n 3, 1) := by decide +kernel
theorem dX6_unitsToRead_19 : decode cX6_unitsToRead 19 = .ok (.aload_n 3, 1) := by decide +kernel
theorem dX6_unitsToRead_20 : decode cX6_unitsToRead 20 = .ok (.getfield 261, 3) := by decide +kernel
theorem dX6_unitsToRead_23 : decode cX6_unitsToRead 23 = .ok (.iconst 3, 1) := by decide +kernel
theorem dX6_unitsToRead_24 : decode cX6_unitsToRead 24 = .ok (.if_icmp .ne 14, 3) := by decide +kernel
theorem dX6_unitsToRead_27 : decode cX6_unitsToRead 27 = .ok (.aload_n 3, 1) := by decide +kernel
theorem dX6_unitsToRead_28 : decode cX6_unitsToRead 28 = .ok (.invokevirtual 251, 3) := by decide +kernel
theorem dX6_unitsToRead_31 : decode cX6_unitsToRead 31 = .ok (.ifCond .eq 7, 3) := by decide +kernel
theorem dX6_unitsToRead_34 : decode cX6_unitsToRead 34 = .ok (.iconst 1, 1) := by decide +kernel
theorem dX6_unitsToRead_35 : decode cX6_unitsToRead 35 = .ok (.goto 4, 3) := by decide +kernel
theorem dX6_unitsToRead_38 : decode cX6_unitsToRead 38 = .ok (.iconst 0, 1) := by decide +kernel
theorem dX6_unitsToRead_39 : decode cX6_unitsToRead 39 = .ok (.istore 4, 2) := by decide +kernel
theorem dX6_unitsToRead_41 : decode cX6_unitsToRead 41 = .ok (.iload_n 2, 1) := by decide +kernel
theorem dX6_unitsToRead_42 : decode cX6_unitsToRead 42 = .ok (.ifCond .eq 17, 3) := by decide +kernel
theorem dX6_unitsToRead_45 : decode cX6_unitsToRead 45 = .ok (.iload 4, 2) := by decide +kernel
theorem dX6_unitsToRead_47 : decode cX6_unitsToRead 47 = .ok (.ifCond .eq 12, 3) := by decide +kernel
theorem dX6_unitsToRead_50 : decode cX6_unitsToRead 50 = .ok (.aload_n 3, 1) := by decide +kernel
theorem dX6_unitsToRead_51 : decode cX6_unitsToRead 51 = .ok (.getfield 312, 3) := by decide +kernel
theorem dX6_unitsToRead_54 : decode cX6_unitsToRead 54 = .ok (.iconst 1, 1) := by decide +kernel
theorem dX6_unitsToRead_55 : decode cX6_unitsToRead 55 = .ok (.iadd, 1) := by decide +kernel
theorem dX6_unitsToRead_56 : decode cX6_unitsToRead 56 = .ok (.goto 11, 3) := by decide +kernel
theorem dX6_unitsToRead_59 : decode cX6_unitsToRead 59 = .ok (.aload_n 0, 1) := by decide +kernel
theorem dX6_unitsToRead_60 : decode cX6_unitsToRead 60 = .ok (.getfield 10, 3) := by decide +kernel
theorem dX6_unitsToRead_63 : decode cX6_unitsToRead 63 = .ok (.iload_n 1, 1) := by decide +kernel
theorem dX6_unitsToRead_64 : decode cX6_unitsToRead 64 = .ok (.invokevirtual 239, 3) := by decide +kernel
theorem dX6_unitsToRead_67 : decode cX6_unitsToRead 67 = .ok (.ireturn, 1) := by decide +kernel
