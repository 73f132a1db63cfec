theorem dX7_unlink_70 : decode cX7_unlink 70 = .ok (.iconst 0, 1) := by decide +kernel
theorem dX7_unlink_71 : decode cX7_unlink 71 = .ok (.iconst 0, 1) := by decide +kernel
theorem dX7_unlink_72 : decode cX7_unlink 72 = .ok (.invokevirtual 229, 3) := by decide +kernel
theorem dX7_unlink_75 : decode cX7_unlink 75 = .ok (.ifCond .eq 9, 3) := by decide +kernel
theorem dX7_unlink_78 : decode cX7_unlink 78 = .ok (.iload_n 3, 1) := by decide +kernel
theorem dX7_unlink_79 : decode cX7_unlink 79 = .ok (.iconst 2, 1) := by decide +kernel
theorem dX7_unlink_80 : decode cX7_unlink 80 = .ok (.idiv, 1) := by decide +kernel
theorem dX7_unlink_81 : decode cX7_unlink 81 = .ok (.goto 5, 3) := by decide +kernel
theorem dX7_unlink_84 : decode cX7_unlink 84 = .ok (.bipush (-9), 2) := by decide +kernel
theorem dX7_unlink_86 : decode cX7_unlink 86 = .ok (.ireturn, 1) := by decide +kernel
theorem dX7_isInside_0 : decode cX7_isInside 0 = .ok (.aload_n 0, 1) := by decide +kernel
theorem dX7_isInside_1 : decode cX7_isInside 1 = .ok (.invokevirtual 168, 3) := by decide +kernel
theorem dX7_isInside_4 : decode cX7_isInside 4 = .ok (.iconst 0, 1) := by decide +kernel
theorem dX7_isInside_5 : decode cX7_isInside 5 = .ok (.istore_n 3, 1) := by decide +kernel
theorem dX7_isInside_6 : decode cX7_isInside 6 = .ok (.iload_n 3, 1) := by decide +kernel
theorem dX7_isInside_7 : decode cX7_isInside 7 = .ok (.sipush 2048, 3) := by decide +kernel
theorem dX7_isInside_10 : decode cX7_isInside 10 = .ok (.if_icmp .ge 25, 3) := by decide +kernel
theorem dX7_isInside_13 : decode cX7_isInside 13 = .ok (.aload_n 0, 1) := by decide +kernel
theorem dX7_isInside_14 : decode cX7_isInside 14 = .ok (.getfield 105, 3) := by decide +kernel
theorem dX7_isInside_17 : decode cX7_isInside 17 = .ok (.iload_n 3, 1) := by decide +kernel
theorem dX7_isInside_18 : decode cX7_isInside 18 = .ok (.iload_n 3, 1) := by decide +kernel
theorem dX7_isInside_19 : decode cX7_isInside 19 = .ok (.iload_n 2, 1) := by decide +kernel
theorem dX7_isInside_20 : decode cX7_isInside 20 = .ok (.if_icmp .ne 7, 3) := by decide +kernel
theorem dX7_isInside_23 : decode cX7_isInside 23 = .ok (.iconst 1, 1) := by decide +kernel
theorem dX7_isInside_24 : decode cX7_isInside 24 = .ok (.goto 4, 3) := by decide +kernel
theorem dX7_isInside_27 : decode cX7_isInside 27 = .ok (.iconst 0, 1) := by decide +kernel
theorem dX7_isInside_28 : decode cX7_isInside 28 = .ok (.bastore, 1) := by decide +kernel
theorem dX7_isInside_29 : decode cX7_isInside 29 = .ok (.iinc 3 1, 3) := by decide +kernel
theorem dX7_isInside_32 : decode cX7_isInside 32 = .ok (.goto (-26), 3) := by decide +kernel
theorem dX7_isInside_35 : decode cX7_isInside 35 = .ok (.iconst 0, 1) := by decide +kernel
theorem dX7_isInside_36 : decode cX7_isInside 36 = .ok (.istore_n 3, 1) := by decide +kernel
theorem dX7_isInside_37 : decode cX7_isInside 37 = .ok (.iload_n 3, 1) := by decide +kernel
theorem dX7_isInside_38 : decode cX7_isInside 38 = .ok (.aload_n 0, 1) := by decide +kernel
theorem dX7_isInside_39 : decode cX7_isInside 39 = .ok (.getfield 81, 3) := by decide +kernel
theorem dX7_isInside_42 : decode cX7_isInside 42 = .ok (.iconst 0, 1) := by decide +kernel
theorem dX7_isInside_43 : decode cX7_isInside 43 = .ok (.iaload, 1) := by decide +kernel
theorem dX7_isInside_44 : decode cX7_isInside 44 = .ok (.if_icmp .ge 75, 3) := by decide +kernel
theorem dX7_isInside_47 : decode cX7_isInside 47 = .ok (.iconst 0, 1) := by decide +kernel
theorem dX7_isInside_48 : decode cX7_isInside 48 = .ok (.istore 4, 2) := by decide +kernel
theorem dX7_isInside_50 : decode cX7_isInside 50 = .ok (.iload 4, 2) := by decide +kernel
theorem dX7_isInside_52 : decode cX7_isInside 52 = .ok (.aload_n 0, 1) := by decide +kernel
theorem dX7_isInside_53 : decode cX7_isInside 53 = .ok (.getfield 81, 3) := by decide +kernel
theorem dX7_isInside_56 : decode cX7_isInside 56 = .ok (.iconst 0, 1) := by decide +kernel
theorem dX7_isInside_57 : decode cX7_isInside 57 = .ok (.iaload, 1) := by decide +kernel
theorem dX7_isInside_58 : decode cX7_isInside 58 = .ok (.if_icmp .ge 55, 3) := by decide +kernel
theorem dX7_isInside_61 : decode cX7_isInside 61 = .ok (.aload_n 0, 1) := by decide +kernel
theorem dX7_isInside_62 : decode cX7_isInside 62 = .ok (.getfield 105, 3) := by decide +kernel
theorem dX7_isInside_65 : decode cX7_isInside 65 = .ok (.aload_n 0, 1) := by decide +kernel
theorem dX7_isInside_66 : decode cX7_isInside 66 = .ok (.getfield 75, 3) := by decide +kernel
theorem dX7_isInside_69 : decode cX7_isInside 69 = .ok (.iload 4, 2) := by decide +kernel
theorem dX7_isInside_71 : decode cX7_isInside 71 = .ok (.iaload, 1) := by decide +kernel
theorem dX7_isInside_72 : decode cX7_isInside 72 = .ok (.bipush 100, 2) := by decide +kernel
theorem dX7_isInside_74 : decode cX7_isInside 74 = .ok (.idiv, 1) := by decide +kernel
theorem dX7_isInside_75 : decode cX7_isInside 75 = .ok (.baload, 1) := by decide +kernel
theorem dX7_isInside_76 : decode cX7_isInside 76 = .ok (.ifCond .eq 31, 3) := by decide +kernel
theorem dX7_isInside_79 : decode cX7_isInside 79 = .ok (.aload_n 0, 1) := by decide +kernel
theorem dX7_isInside_80 : decode cX7_isInside 80 = .ok (.getfield 78, 3) := by decide +kernel
theorem dX7_isInside_83 : decode cX7_isInside 83 = .ok (.iload 4, 2) := by decide +kernel
theorem dX7_isInside_85 : decode cX7_isInside 85 = .ok (.iaload, 1) := by decide +kernel
theorem dX7_isInside_86 : decode cX7_isInside 86 = .ok (.iconst 2, 1) := by decide +kernel
theorem dX7_isInside_87 : decode cX7_isInside 87 = .ok (.irem, 1) := by decide +kernel
theorem dX7_isInside_88 : decode cX7_isInside 88 = .ok (.iconst 1, 1) := by decide +kernel
theorem dX7_isInside_89 : decode cX7_isInside 89 = .ok (.if_icmp .ne 18, 3) := by decide +kernel
theorem dX7_isInside_92 : decode cX7_isInside 92 = .ok (.aload_n 0, 1) := by decide +kernel
theorem dX7_isInside_93 : decode cX7_isInside 93 = .ok (.getfield 105, 3) := by decide +kernel
theorem dX7_isInside_96 : decode cX7_isInside 96 = .ok (.aload_n 0, 1) := by decide +kernel
theorem dX7_isInside_97 : decode cX7_isInside 97 = .ok (.getfield 78, 3) := by decide +kernel
theorem dX7_isInside_100 : decode cX7_isInside 100 = .ok (.iload 4, 2) := by decide +kernel
theorem dX7_isInside_102 : decode cX7_isInside 102 = .ok (.iaload, 1) := by decide +kernel
theorem dX7_isInside_103 : decode cX7_isInside 103 = .ok (.iconst 2, 1) := by decide +kernel
theorem dX7_isInside_104 : decode cX7_isInside 104 = .ok (.idiv, 1) := by decide +kernel
theorem dX7_isInside_105 : decode cX7_isInside 105 = .ok (.iconst 1, 1) := by decide +kernel
theorem dX7_isInside_106 : decode cX7_isInside 106 = .ok (.bastore, 1) := by decide +kernel
theorem dX7_isInside_107 : decode cX7_isInside 107 = .ok (.iinc 4 1, 3) := by decide +kernel
theorem dX7_isInside_110 : decode cX7_isInside 110 = .ok (.goto (-60), 3) := by decide +kernel
theorem dX7_isInside_113 : decode cX7_isInside 113 = .ok (.iinc 3 1, 3) := by decide +kernel
theorem dX7_isInside_116 : decode cX7_isInside 116 = .ok (.goto (-79), 3) := by decide +kernel
theorem dX7_isInside_119 : decode cX7_isInside 119 = .ok (.aload_n 0, 1) := by decide +kernel
theorem dX7_isInside_120 : decode cX7_isInside 120 = .ok (.getfield 105, 3) := by decide +kernel
theorem dX7_isInside_123 : decode cX7_isInside 123 = .ok (.iload_n 1, 1) := by decide +kernel
theorem dX7_isInside_124 : decode cX7_isInside 124 = .ok (.baload, 1) := by decide +kernel
theorem dX7_isInside_125 : decode cX7_isInside 125 = .ok (.ireturn, 1) := by decide +kernel
theorem dX7_rename_0 : decode cX7_rename 0 = .ok (.iconst (-1), 1) := by decide +kernel
theorem dX7_rename_1 : decode cX7_rename 1 = .ok (.istore 5, 2) := by decide +kernel
theorem dX7_rename_3 : decode cX7_rename 3 = .ok (.aload_n 0, 1) := by decide +kernel
theorem dX7_rename_4 : decode cX7_rename 4 = .ok (.aload_n 0, 1) := by decide +kernel
theorem dX7_rename_5 : decode cX7_rename 5 = .ok (.getfield 174, 3) := by decide +kernel
theorem dX7_rename_8 : decode cX7_rename 8 = .ok (.ifCond .eq 7, 3) := by decide +kernel
theorem dX7_rename_11 : decode cX7_rename 11 = .ok (.iconst 3, 1) := by decide +kernel
theorem dX7_rename_12 : decode cX7_rename 12 = .ok (.goto 43, 3) := by decide +kernel
theorem dX7_rename_15 : decode cX7_rename 15 = .ok (.aload_n 0, 1) := by decide +kernel
theorem dX7_rename_16 : decode cX7_rename 16 = .ok (.iload_n 1, 1) := by decide +kernel
theorem dX7_rename_17 : decode cX7_rename 17 = .ok (.invokevirtual 213, 3) := by decide +kernel
theorem dX7_rename_20 : decode cX7_rename 20 = .ok (.ifCond .eq 11, 3) := by decide +kernel
theorem dX7_rename_23 : decode cX7_rename 23 = .ok (.aload_n 0, 1) := by decide +kernel
theorem dX7_rename_24 : decode cX7_rename 24 = .ok (.iload_n 3, 1) := by decide +kernel
theorem dX7_rename_25 : decode cX7_rename 25 = .ok (.invokevirtual 213, 3) := by decide +kernel
theorem dX7_rename_28 : decode cX7_rename 28 = .ok (.ifCond .ne 7, 3) := by decide +kernel
theorem dX7_rename_31 : decode cX7_rename 31 = .ok (.iconst 1, 1) := by decide +kernel
theorem dX7_rename_32 : decode cX7_rename 32 = .ok (.goto 23, 3) := by decide +kernel
theorem dX7_rename_35 : decode cX7_rename 35 = .ok (.iload_n 2, 1) := by decide +kernel
theorem dX7_rename_36 : decode cX7_rename 36 = .ok (.invokestatic 216, 3) := by decide +kernel
theorem dX7_rename_39 : decode cX7_rename 39 = .ok (.ifCond .eq 11, 3) := by decide +kernel
theorem dX7_rename_42 : decode cX7_rename 42 = .ok (.iload 4, 2) := by decide +kernel
theorem dX7_rename_44 : decode cX7_rename 44 = .ok (.invokestatic 216, 3) := by decide +kernel
theorem dX7_rename_47 : decode cX7_rename 47 = .ok (.ifCond .ne 7, 3) := by decide +kernel
theorem dX7_rename_50 : decode cX7_rename 50 = .ok (.iconst 2, 1) := by decide +kernel
theorem dX7_rename_51 : decode cX7_rename 51 = .ok (.goto 4, 3) := by decide +kernel
theorem dX7_rename_54 : decode cX7_rename 54 = .ok (.iconst 0, 1) := by decide +kernel
theorem dX7_rename_55 : decode cX7_rename 55 = .ok (.putfield 127, 3) := by decide +kernel
theorem dX7_rename_58 : decode cX7_rename 58 = .ok (.aload_n 0, 1) := by decide +kernel
theorem dX7_rename_59 : decode cX7_rename 59 = .ok (.getfield 127, 3) := by decide +kernel
theorem dX7_rename_62 : decode cX7_rename 62 = .ok (.ifCond .ne 114, 3) := by decide +kernel
theorem dX7_rename_65 : decode cX7_rename 65 = .ok (.aload_n 0, 1) := by decide +kernel
theorem dX7_rename_66 : decode cX7_rename 66 = .ok (.iload_n 1, 1) := by decide +kernel
theorem dX7_rename_67 : decode cX7_rename 67 = .ok (.iload_n 2, 1) := by decide +kernel
theorem dX7_rename_68 : decode cX7_rename 68 = .ok (.invokevirtual 171, 3) := by decide +kernel
theorem dX7_rename_71 : decode cX7_rename 71 = .ok (.istore 5, 2) := by decide +kernel
theorem dX7_rename_73 : decode cX7_rename 73 = .ok (.aload_n 0, 1) := by decide +kernel
theorem dX7_rename_74 : decode cX7_rename 74 = .ok (.iload_n 3, 1) := by decide +kernel
theorem dX7_rename_75 : decode cX7_rename 75 = .ok (.iload 4, 2) := by decide +kernel
theorem dX7_rename_77 : decode cX7_rename 77 = .ok (.invokevirtual 171, 3) := by decide +kernel
theorem dX7_rename_80 : decode cX7_rename 80 = .ok (.istore 6, 2) := by decide +kernel
theorem dX7_rename_82 : decode cX7_rename 82 = .ok (.iload 5, 2) := by decide +kernel
theorem dX7_rename_84 : decode cX7_rename 84 = .ok (.iconst (-1), 1) := by decide +kernel
theorem dX7_rename_85 : decode cX7_rename 85 = .ok (.if_icmp .eq 34, 3) := by decide +kernel
theorem dX7_rename_88 : decode cX7_rename 88 = .ok (.iload 5, 2) := by decide +kernel
theorem dX7_rename_90 : decode cX7_rename 90 = .ok (.iload 6, 2) := by decide +kernel
theorem dX7_rename_92 : decode cX7_rename 92 = .ok (.if_icmp .eq 27, 3) := by decide +kernel
theorem dX7_rename_95 : decode cX7_rename 95 = .ok (.iload 6, 2) := by decide +kernel
theorem dX7_rename_97 : decode cX7_rename 97 = .ok (.iconst (-1), 1) := by decide +kernel
theorem dX7_rename_98 : decode cX7_rename 98 = .ok (.if_icmp .eq 17, 3) := by decide +kernel
theorem dX7_rename_101 : decode cX7_rename 101 = .ok (.iload 5, 2) := by decide +kernel
theorem dX7_rename_103 : decode cX7_rename 103 = .ok (.iconst 2, 1) := by decide +kernel
theorem dX7_rename_104 : decode cX7_rename 104 = .ok (.irem, 1) := by decide +kernel
theorem dX7_rename_105 : decode cX7_rename 105 = .ok (.ifCond .ne 14, 3) := by decide +kernel
theorem dX7_rename_108 : decode cX7_rename 108 = .ok (.iload 6, 2) := by decide +kernel
theorem dX7_rename_110 : decode cX7_rename 110 = .ok (.iconst 2, 1) := by decide +kernel
theorem dX7_rename_111 : decode cX7_rename 111 = .ok (.irem, 1) := by decide +kernel
theorem dX7_rename_112 : decode cX7_rename 112 = .ok (.ifCond .ne 7, 3) := by decide +kernel
theorem dX7_rename_115 : decode cX7_rename 115 = .ok (.iconst 1, 1) := by decide +kernel
theorem dX7_rename_116 : decode cX7_rename 116 = .ok (.goto 4, 3) := by decide +kernel
theorem dX7_rename_119 : decode cX7_rename 119 = .ok (.iconst 0, 1) := by decide +kernel
theorem dX7_rename_120 : decode cX7_rename 120 = .ok (.istore 7, 2) := by decide +kernel
theorem dX7_rename_122 : decode cX7_rename 122 = .ok (.iload 7, 2) := by decide +kernel
theorem dX7_rename_124 : decode cX7_rename 124 = .ok (.ifCond .eq 26, 3) := by decide +kernel
theorem dX7_rename_127 : decode cX7_rename 127 = .ok (.iload 5, 2) := by decide +kernel
theorem dX7_rename_129 : decode cX7_rename 129 = .ok (.iconst 2, 1) := by decide +kernel
theorem dX7_rename_130 : decode cX7_rename 130 = .ok (.irem, 1) := by decide +kernel
theorem dX7_rename_131 : decode cX7_rename 131 = .ok (.ifCond .eq 15, 3) := by decide +kernel
theorem dX7_rename_134 : decode cX7_rename 134 = .ok (.aload_n 0, 1) := by decide +kernel
theorem dX7_rename_135 : decode cX7_rename 135 = .ok (.iload_n 3, 1) := by decide +kernel
theorem dX7_rename_136 : decode cX7_rename 136 = .ok (.iload 5, 2) := by decide +kernel
theorem dX7_rename_138 : decode cX7_rename 138 = .ok (.iconst 2, 1) := by decide +kernel
theorem dX7_rename_139 : decode cX7_rename 139 = .ok (.idiv, 1) := by decide +kernel
theorem dX7_rename_140 : decode cX7_rename 140 = .ok (.invokevirtual 243, 3) := by decide +kernel
theorem dX7_rename_143 : decode cX7_rename 143 = .ok (.ifCond .ne 7, 3) := by decide +kernel
theorem dX7_rename_146 : decode cX7_rename 146 = .ok (.iconst 1, 1) := by decide +kernel
theorem dX7_rename_147 : decode cX7_rename 147 = .ok (.goto 4, 3) := by decide +kernel
theorem dX7_rename_150 : decode cX7_rename 150 = .ok (.iconst 0, 1) := by decide +kernel
theorem dX7_rename_151 : decode cX7_rename 151 = .ok (.istore 7, 2) := by decide +kernel
theorem dX7_rename_153 : decode cX7_rename 153 = .ok (.aload_n 0, 1) := by decide +kernel
theorem dX7_rename_154 : decode cX7_rename 154 = .ok (.iload 7, 2) := by decide +kernel
theorem dX7_rename_156 : decode cX7_rename 156 = .ok (.ifCond .eq 16, 3) := by decide +kernel
theorem dX7_rename_159 : decode cX7_rename 159 = .ok (.aload_n 0, 1) := by decide +kernel
theorem dX7_rename_160 : decode cX7_rename 160 = .ok (.iconst 3, 1) := by decide +kernel
theorem dX7_rename_161 : decode cX7_rename 161 = .ok (.iconst 3, 1) := by decide +kernel
theorem dX7_rename_162 : decode cX7_rename 162 = .ok (.invokevirtual 222, 3) := by decide +kernel
theorem dX7_rename_165 : decode cX7_rename 165 = .ok (.ifCond .eq 7, 3) := by decide +kernel
theorem dX7_rename_168 : decode cX7_rename 168 = .ok (.iconst 0, 1) := by decide +kernel
theorem dX7_rename_169 : decode cX7_rename 169 = .ok (.goto 4, 3) := by decide +kernel
theorem dX7_rename_172 : decode cX7_rename 172 = .ok (.iconst 3, 1) := by decide +kernel
theorem dX7_rename_173 : decode cX7_rename 173 = .ok (.putfield 127, 3) := by decide +kernel
theorem dX7_rename_176 : decode cX7_rename 176 = .ok (.aload_n 0, 1) := by decide +kernel
theorem dX7_rename_177 : decode cX7_rename 177 = .ok (.getfield 127, 3) := by decide +kernel
theorem dX7_rename_180 : decode cX7_rename 180 = .ok (.ifCond .le 5, 3) := by decide +kernel
theorem dX7_rename_183 : decode cX7_rename 183 = .ok (.iconst 0, 1) := by decide +kernel
theorem dX7_rename_184 : decode cX7_rename 184 = .ok (.ireturn, 1) := by decide +kernel
theorem dX7_rename_185 : decode cX7_rename 185 = .ok (.aload_n 0, 1) := by decide +kernel
theorem dX7_rename_186 : decode cX7_rename 186 = .ok (.iload_n 3, 1) := by decide +kernel
theorem dX7_rename_187 : decode cX7_rename 187 = .ok (.iload 4, 2) := by decide +kernel
theorem dX7_rename_189 : decode cX7_rename 189 = .ok (.iload 5, 2) := by decide +kernel
theorem dX7_rename_191 : decode cX7_rename 191 = .ok (.iconst 2, 1) := by decide +kernel
theorem dX7_rename_192 : decode cX7_rename 192 = .ok (.idiv, 1) := by decide +kernel
theorem dX7_rename_193 : decode cX7_rename 193 = .ok (.iload 5, 2) := by decide +kernel
theorem dX7_rename_195 : decode cX7_rename 195 = .ok (.iconst 2, 1) := by decide +kernel
theorem dX7_rename_196 : decode cX7_rename 196 = .ok (.irem, 1) := by decide +kernel
theorem dX7_rename_197 : decode cX7_rename 197 = .ok (.iconst 1, 1) := by decide +kernel
theorem dX7_rename_198 : decode cX7_rename 198 = .ok (.if_icmp .ne 7, 3) := by decide +kernel
theorem dX7_rename_201 : decode cX7_rename 201 = .ok (.iconst 1, 1) := by decide +kernel
theorem dX7_rename_202 : decode cX7_rename 202 = .ok (.goto 4, 3) := by decide +kernel
theorem dX7_rename_205 : decode cX7_rename 205 = .ok (.iconst 0, 1) := by decide +kernel
theorem dX7_rename_206 : decode cX7_rename 206 = .ok (.invokevirtual 229, 3) := by decide +kernel
theorem dX7_rename_209 : decode cX7_rename 209 = .ok (.ifCond .eq 18, 3) := by decide +kernel
theorem dX7_rename_212 : decode cX7_rename 212 = .ok (.aload_n 0, 1) := by decide +kernel
theorem dX7_rename_213 : decode cX7_rename 213 = .ok (.iload_n 1, 1) := by decide +kernel
theorem dX7_rename_214 : decode cX7_rename 214 = .ok (.iload_n 2, 1) := by decide +kernel
theorem dX7_rename_215 : decode cX7_rename 215 = .ok (.iconst 0, 1) := by decide +kernel
theorem dX7_rename_216 : decode cX7_rename 216 = .ok (.iconst 0, 1) := by decide +kernel
theorem dX7_rename_217 : decode cX7_rename 217 = .ok (.invokevirtual 229, 3) := by decide +kernel
theorem dX7_rename_220 : decode cX7_rename 220 = .ok (.ifCond .eq 7, 3) := by decide +kernel
theorem dX7_rename_223 : decode cX7_rename 223 = .ok (.iconst 1, 1) := by decide +kernel
theorem dX7_rename_224 : decode cX7_rename 224 = .ok (.goto 4, 3) := by decide +kernel
theorem dX7_rename_227 : decode cX7_rename 227 = .ok (.iconst 0, 1) := by decide +kernel
theorem dX7_rename_228 : decode cX7_rename 228 = .ok (.istore 6, 2) := by decide +kernel
theorem dX7_rename_230 : decode cX7_rename 230 = .ok (.iload 6, 2) := by decide +kernel
theorem dX7_rename_232 : decode cX7_rename 232 = .ok (.ifCond .eq 10, 3) := by decide +kernel
theorem dX7_rename_235 : decode cX7_rename 235 = .ok (.iload 5, 2) := by decide +kernel
theorem dX7_rename_237 : decode cX7_rename 237 = .ok (.iconst 2, 1) := by decide +kernel
theorem dX7_rename_238 : decode cX7_rename 238 = .ok (.idiv, 1) := by decide +kernel
theorem dX7_rename_239 : decode cX7_rename 239 = .ok (.goto 5, 3) := by decide +kernel
theorem dX7_rename_242 : decode cX7_rename 242 = .ok (.bipush (-9), 2) := by decide +kernel
theorem dX7_rename_244 : decode cX7_rename 244 = .ok (.ireturn, 1) := by decide +kernel
theorem dX7_write_0 : decode cX7_write 0 = .ok (.aload_n 0, 1) := by decide +kernel
theorem dX7_write_1 : decode cX7_write 1 = .ok (.aload_n 0, 1) := by decide +kernel
theorem dX7_write_2 : decode cX7_write 2 = .ok (.getfield 174, 3) := by decide +kernel
theorem dX7_write_5 : decode cX7_write 5 = .ok (.ifCond .eq 7, 3) := by decide +kernel
theorem dX7_write_8 : decode cX7_write 8 = .ok (.iconst 3, 1) := by decide +kernel
theorem dX7_write_9 : decode cX7_write 9 = .ok (.goto 67, 3) := by decide +kernel
theorem dX7_write_12 : decode cX7_write 12 = .ok (.aload_n 0, 1) := by decide +kernel
theorem dX7_write_13 : decode cX7_write 13 = .ok (.iload_n 1, 1) := by decide +kernel
theorem dX7_write_14 : decode cX7_write 14 = .ok (.invokevirtual 233, 3) := by decide +kernel
theorem dX7_write_17 : decode cX7_write 17 = .ok (.iconst (-1), 1) := by decide +kernel
theorem dX7_write_18 : decode cX7_write 18 = .ok (.if_icmp .ne 7, 3) := by decide +kernel
theorem dX7_write_21 : decode cX7_write 21 = .ok (.iconst 1, 1) := by decide +kernel
theorem dX7_write_22 : decode cX7_write 22 = .ok (.goto 54, 3) := by decide +kernel
theorem dX7_write_25 : decode cX7_write 25 = .ok (.iload_n 2, 1) := by decide +kernel
theorem dX7_write_26 : decode cX7_write 26 = .ok (.iconst 0, 1) := by decide +kernel
theorem dX7_write_27 : decode cX7_write 27 = .ok (.bipush 63, 2) := by decide +kernel
theorem dX7_write_29 : decode cX7_write 29 = .ok (.invokestatic 210, 3) := by decide +kernel
theorem dX7_write_32 : decode cX7_write 32 = .ok (.ifCond .eq 23, 3) := by decide +kernel
theorem dX7_write_35 : decode cX7_write 35 = .ok (.iload 5, 2) := by decide +kernel
theorem dX7_write_37 : decode cX7_write 37 = .ok (.iconst 1, 1) := by decide +kernel
theorem dX7_write_38 : decode cX7_write 38 = .ok (.bipush 8, 2) := by decide +kernel
theorem dX7_write_40 : decode cX7_write 40 = .ok (.invokestatic 210, 3) := by decide +kernel
theorem dX7_write_43 : decode cX7_write 43 = .ok (.ifCond .eq 12, 3) := by decide +kernel
theorem dX7_write_46 : decode cX7_write 46 = .ok (.iload_n 2, 1) := by decide +kernel
theorem dX7_write_47 : decode cX7_write 47 = .ok (.iload 5, 2) := by decide +kernel
theorem dX7_write_49 : decode cX7_write 49 = .ok (.iadd, 1) := by decide +kernel
theorem dX7_write_50 : decode cX7_write 50 = .ok (.bipush 64, 2) := by decide +kernel
theorem dX7_write_52 : decode cX7_write 52 = .ok (.if_icmp .le 7, 3) := by decide +kernel
theorem dX7_write_55 : decode cX7_write 55 = .ok (.iconst 2, 1) := by decide +kernel
theorem dX7_write_56 : decode cX7_write 56 = .ok (.goto 20, 3) := by decide +kernel
theorem dX7_write_59 : decode cX7_write 59 = .ok (.aload_n 0, 1) := by decide +kernel
theorem dX7_write_60 : decode cX7_write 60 = .ok (.iconst 2, 1) := by decide +kernel
theorem dX7_write_61 : decode cX7_write 61 = .ok (.iload 5, 2) := by decide +kernel
theorem dX7_write_63 : decode cX7_write 63 = .ok (.iadd, 1) := by decide +kernel
theorem dX7_write_64 : decode cX7_write 64 = .ok (.iconst 0, 1) := by decide +kernel
theorem dX7_write_65 : decode cX7_write 65 = .ok (.invokevirtual 222, 3) := by decide +kernel
theorem dX7_write_68 : decode cX7_write 68 = .ok (.ifCond .ne 7, 3) := by decide +kernel
theorem dX7_write_71 : decode cX7_write 71 = .ok (.iconst 3, 1) := by decide +kernel
theorem dX7_write_72 : decode cX7_write 72 = .ok (.goto 4, 3) := by decide +kernel
theorem dX7_write_75 : decode cX7_write 75 = .ok (.iconst 0, 1) := by decide +kernel
theorem dX7_write_76 : decode cX7_write 76 = .ok (.putfield 127, 3) := by decide +kernel
theorem dX7_write_79 : decode cX7_write 79 = .ok (.aload_n 0, 1) := by decide +kernel
theorem dX7_write_80 : decode cX7_write 80 = .ok (.getfield 127, 3) := by decide +kernel
theorem dX7_write_83 : decode cX7_write 83 = .ok (.ifCond .le 5, 3) := by decide +kernel
theorem dX7_write_86 : decode cX7_write 86 = .ok (.iconst 0, 1) := by decide +kernel
theorem dX7_write_87 : decode cX7_write 87 = .ok (.ireturn, 1) := by decide +kernel
theorem dX7_write_88 : decode cX7_write 88 = .ok (.aload_n 0, 1) := by decide +kernel
theorem dX7_write_89 : decode cX7_write 89 = .ok (.getfield 87, 3) := by decide +kernel
theorem dX7_write_92 : decode cX7_write 92 = .ok (.aload_n 0, 1) := by decide +kernel
theorem dX7_write_93 : decode cX7_write 93 = .ok (.iload_n 1, 1) := by decide +kernel
theorem dX7_write_94 : decode cX7_write 94 = .ok (.invokevirtual 233, 3) := by decide +kernel
theorem dX7_write_97 : decode cX7_write 97 = .ok (.iaload, 1) := by decide +kernel
theorem dX7_write_98 : decode cX7_write 98 = .ok (.istore 6, 2) := by decide +kernel
theorem dX7_write_100 : decode cX7_write 100 = .ok (.iload_n 2, 1) := by decide +kernel
theorem dX7_write_101 : decode cX7_write 101 = .ok (.iload 5, 2) := by decide +kernel
theorem dX7_write_103 : decode cX7_write 103 = .ok (.iadd, 1) := by decide +kernel
theorem dX7_write_104 : decode cX7_write 104 = .ok (.iload 6, 2) := by decide +kernel
theorem dX7_write_106 : decode cX7_write 106 = .ok (.if_icmp .le 10, 3) := by decide +kernel
theorem dX7_write_109 : decode cX7_write 109 = .ok (.iload_n 2, 1) := by decide +kernel
theorem dX7_write_110 : decode cX7_write 110 = .ok (.iload 5, 2) := by decide +kernel
theorem dX7_write_112 : decode cX7_write 112 = .ok (.iadd, 1) := by decide +kernel
theorem dX7_write_113 : decode cX7_write 113 = .ok (.goto 5, 3) := by decide +kernel
theorem dX7_write_116 : decode cX7_write 116 = .ok (.iload 6, 2) := by decide +kernel
theorem dX7_write_118 : decode cX7_write 118 = .ok (.istore 7, 2) := by decide +kernel
theorem dX7_write_120 : decode cX7_write 120 = .ok (.aload_n 0, 1) := by decide +kernel
theorem dX7_write_121 : decode cX7_write 121 = .ok (.iload_n 1, 1) := by decide +kernel
theorem dX7_write_122 : decode cX7_write 122 = .ok (.iload_n 2, 1) := by decide +kernel
theorem dX7_write_123 : decode cX7_write 123 = .ok (.lload_n 3, 1) := by decide +kernel
theorem dX7_write_124 : decode cX7_write 124 = .ok (.iload 5, 2) := by decide +kernel
theorem dX7_write_126 : decode cX7_write 126 = .ok (.iload 7, 2) := by decide +kernel
theorem dX7_write_128 : decode cX7_write 128 = .ok (.invokevirtual 225, 3) := by decide +kernel
theorem dX7_write_131 : decode cX7_write 131 = .ok (.ifCond .eq 8, 3) := by decide +kernel
theorem dX7_write_134 : decode cX7_write 134 = .ok (.iload 7, 2) := by decide +kernel
theorem dX7_write_136 : decode cX7_write 136 = .ok (.goto 5, 3) := by decide +kernel
theorem dX7_write_139 : decode cX7_write 139 = .ok (.bipush (-9), 2) := by decide +kernel
theorem dX7_write_141 : decode cX7_write 141 = .ok (.ireturn, 1) := by decide +kernel
theorem dX7_truncate_0 : decode cX7_truncate 0 = .ok (.aload_n 0, 1) := by decide +kernel
theorem dX7_truncate_1 : decode cX7_truncate 1 = .ok (.aload_n 0, 1) := by decide +kernel
theorem dX7_truncate_2 : decode cX7_truncate 2 = .ok (.getfield 174, 3) := by decide +kernel
theorem dX7_truncate_5 : decode cX7_truncate 5 = .ok (.ifCond .eq 7, 3) := by decide +kernel
theorem dX7_truncate_8 : decode cX7_truncate 8 = .ok (.iconst 3, 1) := by decide +kernel
theorem dX7_truncate_9 : decode cX7_truncate 9 = .ok (.goto 44, 3) := by decide +kernel
theorem dX7_truncate_12 : decode cX7_truncate 12 = .ok (.aload_n 0, 1) := by decide +kernel
theorem dX7_truncate_13 : decode cX7_truncate 13 = .ok (.iload_n 1, 1) := by decide +kernel
theorem dX7_truncate_14 : decode cX7_truncate 14 = .ok (.invokevirtual 233, 3) := by decide +kernel
theorem dX7_truncate_17 : decode cX7_truncate 17 = .ok (.iconst (-1), 1) := by decide +kernel
theorem dX7_truncate_18 : decode cX7_truncate 18 = .ok (.if_icmp .ne 7, 3) := by decide +kernel
theorem dX7_truncate_21 : decode cX7_truncate 21 = .ok (.iconst 1, 1) := by decide +kernel
theorem dX7_truncate_22 : decode cX7_truncate 22 = .ok (.goto 31, 3) := by decide +kernel
theorem dX7_truncate_25 : decode cX7_truncate 25 = .ok (.iload_n 2, 1) := by decide +kernel
theorem dX7_truncate_26 : decode cX7_truncate 26 = .ok (.iconst 0, 1) := by decide +kernel
theorem dX7_truncate_27 : decode cX7_truncate 27 = .ok (.bipush 64, 2) := by decide +kernel
theorem dX7_truncate_29 : decode cX7_truncate 29 = .ok (.invokestatic 210, 3) := by decide +kernel
theorem dX7_truncate_32 : decode cX7_truncate 32 = .ok (.ifCond .ne 7, 3) := by decide +kernel
theorem dX7_truncate_35 : decode cX7_truncate 35 = .ok (.iconst 2, 1) := by decide +kernel
theorem dX7_truncate_36 : decode cX7_truncate 36 = .ok (.goto 17, 3) := by decide +kernel
theorem dX7_truncate_39 : decode cX7_truncate 39 = .ok (.aload_n 0, 1) := by decide +kernel
theorem dX7_truncate_40 : decode cX7_truncate 40 = .ok (.iconst 2, 1) := by decide +kernel
theorem dX7_truncate_41 : decode cX7_truncate 41 = .ok (.iconst 0, 1) := by decide +kernel
theorem dX7_truncate_42 : decode cX7_truncate 42 = .ok (.invokevirtual 222, 3) := by decide +kernel
theorem dX7_truncate_45 : decode cX7_truncate 45 = .ok (.ifCond .ne 7, 3) := by decide +kernel
theorem dX7_truncate_48 : decode cX7_truncate 48 = .ok (.iconst 3, 1) := by decide +kernel
theorem dX7_truncate_49 : decode cX7_truncate 49 = .ok (.goto 4, 3) := by decide +kernel
theorem dX7_truncate_52 : decode cX7_truncate 52 = .ok (.iconst 0, 1) := by decide +kernel
theorem dX7_truncate_53 : decode cX7_truncate 53 = .ok (.putfield 127, 3) := by decide +kernel
theorem dX7_truncate_56 : decode cX7_truncate 56 = .ok (.aload_n 0, 1) := by decide +kernel
theorem dX7_truncate_57 : decode cX7_truncate 57 = .ok (.getfield 127, 3) := by decide +kernel
theorem dX7_truncate_60 : decode cX7_truncate 60 = .ok (.ifCond .le 5, 3) := by decide +kernel
theorem dX7_truncate_63 : decode cX7_truncate 63 = .ok (.iconst 0, 1) := by decide +kernel
theorem dX7_truncate_64 : decode cX7_truncate 64 = .ok (.ireturn, 1) := by decide +kernel
theorem dX7_truncate_65 : decode cX7_truncate 65 = .ok (.aload_n 0, 1) := by decide +kernel
theorem dX7_truncate_66 : decode cX7_truncate 66 = .ok (.getfield 87, 3) := by decide +kernel
theorem dX7_truncate_69 : decode cX7_truncate 69 = .ok (.aload_n 0, 1) := by decide +kernel
theorem dX7_truncate_70 : decode cX7_truncate 70 = .ok (.iload_n 1, 1) := by decide +kernel
theorem dX7_truncate_71 : decode cX7_truncate 71 = .ok (.invokevirtual 233, 3) := by decide +kernel
theorem dX7_truncate_74 : decode cX7_truncate 74 = .ok (.iaload, 1) := by decide +kernel
theorem dX7_truncate_75 : decode cX7_truncate 75 = .ok (.istore_n 3, 1) := by decide +kernel
theorem dX7_truncate_76 : decode cX7_truncate 76 = .ok (.aload_n 0, 1) := by decide +kernel
theorem dX7_truncate_77 : decode cX7_truncate 77 = .ok (.iload_n 1, 1) := by decide +kernel
theorem dX7_truncate_78 : decode cX7_truncate 78 = .ok (.iconst 0, 1) := by decide +kernel
theorem dX7_truncate_79 : decode cX7_truncate 79 = .ok (.lconst 0, 1) := by decide +kernel
theorem dX7_truncate_80 : decode cX7_truncate 80 = .ok (.iconst 0, 1) := by decide +kernel
theorem dX7_truncate_81 : decode cX7_truncate 81 = .ok (.iload_n 2, 1) := by decide +kernel
theorem dX7_truncate_82 : decode cX7_truncate 82 = .ok (.invokevirtual 225, 3) := by decide +kernel
theorem dX7_truncate_85 : decode cX7_truncate 85 = .ok (.ifCond .eq 7, 3) := by decide +kernel
theorem dX7_truncate_88 : decode cX7_truncate 88 = .ok (.iload_n 3, 1) := by decide +kernel
theorem dX7_truncate_89 : decode cX7_truncate 89 = .ok (.goto 5, 3) := by decide +kernel
theorem dX7_truncate_92 : decode cX7_truncate 92 = .ok (.bipush (-9), 2) := by decide +kernel
theorem dX7_truncate_94 : decode cX7_truncate 94 = .ok (.ireturn, 1) := by decide +kernel
theorem dX7_isLive_0 : decode cX7_isLive 0 = .ok (.iconst 0, 1) := by decide +kernel
theorem dX7_isLive_1 : decode cX7_isLive 1 = .ok (.istore_n 2, 1) := by decide +kernel
theorem dX7_isLive_2 : decode cX7_isLive 2 = .ok (.iload_n 2, 1) := by decide +kernel
theorem dX7_isLive_3 : decode cX7_isLive 3 = .ok (.iload_n 1, 1) := by decide +kernel
theorem dX7_isLive_4 : decode cX7_isLive 4 = .ok (.if_icmp .ge 28, 3) := by decide +kernel
theorem dX7_isLive_7 : decode cX7_isLive 7 = .ok (.aload_n 0, 1) := by decide +kernel
theorem dX7_isLive_8 : decode cX7_isLive 8 = .ok (.iload_n 2, 1) := by decide +kernel
theorem dX7_isLive_9 : decode cX7_isLive 9 = .ok (.invokevirtual 155, 3) := by decide +kernel
theorem dX7_isLive_12 : decode cX7_isLive 12 = .ok (.ifCond .eq 14, 3) := by decide +kernel
theorem dX7_isLive_15 : decode cX7_isLive 15 = .ok (.aload_n 0, 1) := by decide +kernel
theorem dX7_isLive_16 : decode cX7_isLive 16 = .ok (.iload_n 1, 1) := by decide +kernel
theorem dX7_isLive_17 : decode cX7_isLive 17 = .ok (.iload_n 2, 1) := by decide +kernel
theorem dX7_isLive_18 : decode cX7_isLive 18 = .ok (.invokevirtual 246, 3) := by decide +kernel
theorem dX7_isLive_21 : decode cX7_isLive 21 = .ok (.ifCond .eq 5, 3) := by decide +kernel
theorem dX7_isLive_24 : decode cX7_isLive 24 = .ok (.iconst 0, 1) := by decide +kernel
theorem dX7_isLive_25 : decode cX7_isLive 25 = .ok (.ireturn, 1) := by decide +kernel
theorem dX7_isLive_26 : decode cX7_isLive 26 = .ok (.iinc 2 1, 3) := by decide +kernel
theorem dX7_isLive_29 : decode cX7_isLive 29 = .ok (.goto (-27), 3) := by decide +kernel
theorem dX7_isLive_32 : decode cX7_isLive 32 = .ok (.aload_n 0, 1) := by decide +kernel
theorem dX7_isLive_33 : decode cX7_isLive 33 = .ok (.getfield 7, 3) := by decide +kernel
theorem dX7_isLive_36 : decode cX7_isLive 36 = .ok (.iload_n 1, 1) := by decide +kernel
theorem dX7_isLive_37 : decode cX7_isLive 37 = .ok (.iaload, 1) := by decide +kernel
theorem dX7_isLive_38 : decode cX7_isLive 38 = .ok (.iconst 2, 1) := by decide +kernel
theorem dX7_isLive_39 : decode cX7_isLive 39 = .ok (.if_icmp .ne 60, 3) := by decide +kernel
theorem dX7_isLive_42 : decode cX7_isLive 42 = .ok (.aload_n 0, 1) := by decide +kernel
theorem dX7_isLive_43 : decode cX7_isLive 43 = .ok (.aload_n 0, 1) := by decide +kernel
theorem dX7_isLive_44 : decode cX7_isLive 44 = .ok (.getfield 13, 3) := by decide +kernel
theorem dX7_isLive_47 : decode cX7_isLive 47 = .ok (.iload_n 1, 1) := by decide +kernel
theorem dX7_isLive_48 : decode cX7_isLive 48 = .ok (.iaload, 1) := by decide +kernel
theorem dX7_isLive_49 : decode cX7_isLive 49 = .ok (.invokevirtual 213, 3) := by decide +kernel
theorem dX7_isLive_52 : decode cX7_isLive 52 = .ok (.ifCond .eq 22, 3) := by decide +kernel
theorem dX7_isLive_55 : decode cX7_isLive 55 = .ok (.aload_n 0, 1) := by decide +kernel
theorem dX7_isLive_56 : decode cX7_isLive 56 = .ok (.aload_n 0, 1) := by decide +kernel
theorem dX7_isLive_57 : decode cX7_isLive 57 = .ok (.getfield 13, 3) := by decide +kernel
theorem dX7_isLive_60 : decode cX7_isLive 60 = .ok (.iload_n 1, 1) := by decide +kernel
theorem dX7_isLive_61 : decode cX7_isLive 61 = .ok (.iaload, 1) := by decide +kernel
theorem dX7_isLive_62 : decode cX7_isLive 62 = .ok (.aload_n 0, 1) := by decide +kernel
theorem dX7_isLive_63 : decode cX7_isLive 63 = .ok (.getfield 32, 3) := by decide +kernel
theorem dX7_isLive_66 : decode cX7_isLive 66 = .ok (.iload_n 1, 1) := by decide +kernel
theorem dX7_isLive_67 : decode cX7_isLive 67 = .ok (.iaload, 1) := by decide +kernel
theorem dX7_isLive_68 : decode cX7_isLive 68 = .ok (.invokevirtual 171, 3) := by decide +kernel
theorem dX7_isLive_71 : decode cX7_isLive 71 = .ok (.goto 4, 3) := by decide +kernel
theorem dX7_isLive_74 : decode cX7_isLive 74 = .ok (.iconst (-1), 1) := by decide +kernel
theorem dX7_isLive_75 : decode cX7_isLive 75 = .ok (.istore_n 2, 1) := by decide +kernel
theorem dX7_isLive_76 : decode cX7_isLive 76 = .ok (.aload_n 0, 1) := by decide +kernel
theorem dX7_isLive_77 : decode cX7_isLive 77 = .ok (.invokevirtual 168, 3) := by decide +kernel
theorem dX7_isLive_80 : decode cX7_isLive 80 = .ok (.iload_n 2, 1) := by decide +kernel
theorem dX7_isLive_81 : decode cX7_isLive 81 = .ok (.iconst (-1), 1) := by decide +kernel
theorem dX7_isLive_82 : decode cX7_isLive 82 = .ok (.if_icmp .eq 15, 3) := by decide +kernel
theorem dX7_isLive_85 : decode cX7_isLive 85 = .ok (.aload_n 0, 1) := by decide +kernel
theorem dX7_isLive_86 : decode cX7_isLive 86 = .ok (.iload_n 1, 1) := by decide +kernel
theorem dX7_isLive_87 : decode cX7_isLive 87 = .ok (.invokevirtual 249, 3) := by decide +kernel
theorem dX7_isLive_90 : decode cX7_isLive 90 = .ok (.ifCond .eq 7, 3) := by decide +kernel
theorem dX7_isLive_93 : decode cX7_isLive 93 = .ok (.iconst 1, 1) := by decide +kernel
theorem dX7_isLive_94 : decode cX7_isLive 94 = .ok (.goto 4, 3) := by decide +kernel
theorem dX7_isLive_97 : decode cX7_isLive 97 = .ok (.iconst 0, 1) := by decide +kernel
theorem dX7_isLive_98 : decode cX7_isLive 98 = .ok (.ireturn, 1) := by decide +kernel
theorem dX7_isLive_99 : decode cX7_isLive 99 = .ok (.aload_n 0, 1) := by decide +kernel
theorem dX7_isLive_100 : decode cX7_isLive 100 = .ok (.aload_n 0, 1) := by decide +kernel
theorem dX7_isLive_101 : decode cX7_isLive 101 = .ok (.getfield 13, 3) := by decide +kernel
theorem dX7_isLive_104 : decode cX7_isLive 104 = .ok (.iload_n 1, 1) := by decide +kernel
theorem dX7_isLive_105 : decode cX7_isLive 105 = .ok (.iaload, 1) := by decide +kernel
theorem dX7_isLive_106 : decode cX7_isLive 106 = .ok (.invokevirtual 233, 3) := by decide +kernel
theorem dX7_isLive_109 : decode cX7_isLive 109 = .ok (.istore_n 2, 1) := by decide +kernel
theorem dX7_isLive_110 : decode cX7_isLive 110 = .ok (.iload_n 2, 1) := by decide +kernel
theorem dX7_isLive_111 : decode cX7_isLive 111 = .ok (.iconst (-1), 1) := by decide +kernel
theorem dX7_isLive_112 : decode cX7_isLive 112 = .ok (.if_icmp .ne 5, 3) := by decide +kernel
theorem dX7_isLive_115 : decode cX7_isLive 115 = .ok (.iconst 0, 1) := by decide +kernel
theorem dX7_isLive_116 : decode cX7_isLive 116 = .ok (.ireturn, 1) := by decide +kernel
theorem dX7_isLive_117 : decode cX7_isLive 117 = .ok (.aload_n 0, 1) := by decide +kernel
theorem dX7_isLive_118 : decode cX7_isLive 118 = .ok (.aload_n 0, 1) := by decide +kernel
theorem dX7_isLive_119 : decode cX7_isLive 119 = .ok (.getfield 13, 3) := by decide +kernel
theorem dX7_isLive_122 : decode cX7_isLive 122 = .ok (.iload_n 1, 1) := by decide +kernel
theorem dX7_isLive_123 : decode cX7_isLive 123 = .ok (.iaload, 1) := by decide +kernel
theorem dX7_isLive_124 : decode cX7_isLive 124 = .ok (.aload_n 0, 1) := by decide +kernel
theorem dX7_isLive_125 : decode cX7_isLive 125 = .ok (.getfield 16, 3) := by decide +kernel
theorem dX7_isLive_128 : decode cX7_isLive 128 = .ok (.iload_n 1, 1) := by decide +kernel
theorem dX7_isLive_129 : decode cX7_isLive 129 = .ok (.iaload, 1) := by decide +kernel
theorem dX7_isLive_130 : decode cX7_isLive 130 = .ok (.invokevirtual 134, 3) := by decide +kernel
theorem dX7_isLive_133 : decode cX7_isLive 133 = .ok (.iconst (-1), 1) := by decide +kernel
theorem dX7_isLive_134 : decode cX7_isLive 134 = .ok (.if_icmp .ne 7, 3) := by decide +kernel
theorem dX7_isLive_137 : decode cX7_isLive 137 = .ok (.iconst 1, 1) := by decide +kernel
theorem dX7_isLive_138 : decode cX7_isLive 138 = .ok (.goto 4, 3) := by decide +kernel
theorem dX7_isLive_141 : decode cX7_isLive 141 = .ok (.iconst 0, 1) := by decide +kernel
theorem dX7_isLive_142 : decode cX7_isLive 142 = .ok (.istore_n 3, 1) := by decide +kernel
theorem dX7_isLive_143 : decode cX7_isLive 143 = .ok (.bipush 64, 2) := by decide +kernel
theorem dX7_isLive_145 : decode cX7_isLive 145 = .ok (.iload_n 2, 1) := by decide +kernel
theorem dX7_isLive_146 : decode cX7_isLive 146 = .ok (.imul, 1) := by decide +kernel
theorem dX7_isLive_147 : decode cX7_isLive 147 = .ok (.istore 4, 2) := by decide +kernel
theorem dX7_isLive_149 : decode cX7_isLive 149 = .ok (.iload 4, 2) := by decide +kernel
theorem dX7_isLive_151 : decode cX7_isLive 151 = .ok (.bipush 64, 2) := by decide +kernel
theorem dX7_isLive_153 : decode cX7_isLive 153 = .ok (.iload_n 2, 1) := by decide +kernel
theorem dX7_isLive_154 : decode cX7_isLive 154 = .ok (.imul, 1) := by decide +kernel
theorem dX7_isLive_155 : decode cX7_isLive 155 = .ok (.aload_n 0, 1) := by decide +kernel
theorem dX7_isLive_156 : decode cX7_isLive 156 = .ok (.getfield 87, 3) := by decide +kernel
theorem dX7_isLive_159 : decode cX7_isLive 159 = .ok (.iload_n 2, 1) := by decide +kernel
theorem dX7_isLive_160 : decode cX7_isLive 160 = .ok (.iaload, 1) := by decide +kernel
theorem dX7_isLive_161 : decode cX7_isLive 161 = .ok (.iadd, 1) := by decide +kernel
theorem dX7_isLive_162 : decode cX7_isLive 162 = .ok (.if_icmp .ge 35, 3) := by decide +kernel
theorem dX7_isLive_165 : decode cX7_isLive 165 = .ok (.iload_n 3, 1) := by decide +kernel
theorem dX7_isLive_166 : decode cX7_isLive 166 = .ok (.ifCond .ne 19, 3) := by decide +kernel
theorem dX7_isLive_169 : decode cX7_isLive 169 = .ok (.aload_n 0, 1) := by decide +kernel
theorem dX7_isLive_170 : decode cX7_isLive 170 = .ok (.getfield 96, 3) := by decide +kernel
theorem dX7_isLive_173 : decode cX7_isLive 173 = .ok (.iload 4, 2) := by decide +kernel
theorem dX7_isLive_175 : decode cX7_isLive 175 = .ok (.iaload, 1) := by decide +kernel
theorem dX7_isLive_176 : decode cX7_isLive 176 = .ok (.aload_n 0, 1) := by decide +kernel
theorem dX7_isLive_177 : decode cX7_isLive 177 = .ok (.getfield 16, 3) := by decide +kernel
theorem dX7_isLive_180 : decode cX7_isLive 180 = .ok (.iload_n 1, 1) := by decide +kernel
theorem dX7_isLive_181 : decode cX7_isLive 181 = .ok (.iaload, 1) := by decide +kernel
theorem dX7_isLive_182 : decode cX7_isLive 182 = .ok (.if_icmp .ne 7, 3) := by decide +kernel
theorem dX7_isLive_185 : decode cX7_isLive 185 = .ok (.iconst 1, 1) := by decide +kernel
theorem dX7_isLive_186 : decode cX7_isLive 186 = .ok (.goto 4, 3) := by decide +kernel
theorem dX7_isLive_189 : decode cX7_isLive 189 = .ok (.iconst 0, 1) := by decide +kernel
theorem dX7_isLive_190 : decode cX7_isLive 190 = .ok (.istore_n 3, 1) := by decide +kernel
theorem dX7_isLive_191 : decode cX7_isLive 191 = .ok (.iinc 4 1, 3) := by decide +kernel
theorem dX7_isLive_194 : decode cX7_isLive 194 = .ok (.goto (-45), 3) := by decide +kernel
theorem dX7_isLive_197 : decode cX7_isLive 197 = .ok (.iload_n 3, 1) := by decide +kernel
theorem dX7_isLive_198 : decode cX7_isLive 198 = .ok (.ireturn, 1) := by decide +kernel
theorem dX7_isCounting_0 : decode cX7_isCounting 0 = .ok (.aload_n 0, 1) := by decide +kernel
theorem dX7_isCounting_1 : decode cX7_isCounting 1 = .ok (.getfield 35, 3) := by decide +kernel
theorem dX7_isCounting_4 : decode cX7_isCounting 4 = .ok (.iload_n 1, 1) := by decide +kernel
theorem dX7_isCounting_5 : decode cX7_isCounting 5 = .ok (.iaload, 1) := by decide +kernel
theorem dX7_isCounting_6 : decode cX7_isCounting 6 = .ok (.ifCond .le 7, 3) := by decide +kernel
theorem dX7_isCounting_9 : decode cX7_isCounting 9 = .ok (.iconst 1, 1) := by decide +kernel
theorem dX7_isCounting_10 : decode cX7_isCounting 10 = .ok (.goto 4, 3) := by decide +kernel
theorem dX7_isCounting_13 : decode cX7_isCounting 13 = .ok (.iconst 0, 1) := by decide +kernel
theorem dX7_isCounting_14 : decode cX7_isCounting 14 = .ok (.istore_n 2, 1) := by decide +kernel
theorem dX7_isCounting_15 : decode cX7_isCounting 15 = .ok (.iconst 0, 1) := by decide +kernel
theorem dX7_isCounting_16 : decode cX7_isCounting 16 = .ok (.istore_n 3, 1) := by decide +kernel
theorem dX7_isCounting_17 : decode cX7_isCounting 17 = .ok (.iload_n 3, 1) := by decide +kernel
theorem dX7_isCounting_18 : decode cX7_isCounting 18 = .ok (.sipush 128, 3) := by decide +kernel
theorem dX7_isCounting_21 : decode cX7_isCounting 21 = .ok (.if_icmp .ge 95, 3) := by decide +kernel
theorem dX7_isCounting_24 : decode cX7_isCounting 24 = .ok (.iload_n 2, 1) := by decide +kernel
theorem dX7_isCounting_25 : decode cX7_isCounting 25 = .ok (.ifCond .eq 91, 3) := by decide +kernel
theorem dX7_isCounting_28 : decode cX7_isCounting 28 = .ok (.aload_n 0, 1) := by decide +kernel
theorem dX7_isCounting_29 : decode cX7_isCounting 29 = .ok (.getfield 69, 3) := by decide +kernel
theorem dX7_isCounting_32 : decode cX7_isCounting 32 = .ok (.iload_n 3, 1) := by decide +kernel
theorem dX7_isCounting_33 : decode cX7_isCounting 33 = .ok (.baload, 1) := by decide +kernel
theorem dX7_isCounting_34 : decode cX7_isCounting 34 = .ok (.ifCond .eq 47, 3) := by decide +kernel
theorem dX7_isCounting_37 : decode cX7_isCounting 37 = .ok (.aload_n 0, 1) := by decide +kernel
theorem dX7_isCounting_38 : decode cX7_isCounting 38 = .ok (.getfield 7, 3) := by decide +kernel
theorem dX7_isCounting_41 : decode cX7_isCounting 41 = .ok (.iload_n 3, 1) := by decide +kernel
theorem dX7_isCounting_42 : decode cX7_isCounting 42 = .ok (.iaload, 1) := by decide +kernel
theorem dX7_isCounting_43 : decode cX7_isCounting 43 = .ok (.iconst 2, 1) := by decide +kernel
theorem dX7_isCounting_44 : decode cX7_isCounting 44 = .ok (.if_icmp .ne 37, 3) := by decide +kernel
theorem dX7_isCounting_47 : decode cX7_isCounting 47 = .ok (.aload_n 0, 1) := by decide +kernel
theorem dX7_isCounting_48 : decode cX7_isCounting 48 = .ok (.getfield 13, 3) := by decide +kernel
theorem dX7_isCounting_51 : decode cX7_isCounting 51 = .ok (.iload_n 3, 1) := by decide +kernel
theorem dX7_isCounting_52 : decode cX7_isCounting 52 = .ok (.iaload, 1) := by decide +kernel
theorem dX7_isCounting_53 : decode cX7_isCounting 53 = .ok (.aload_n 0, 1) := by decide +kernel
theorem dX7_isCounting_54 : decode cX7_isCounting 54 = .ok (.getfield 13, 3) := by decide +kernel
theorem dX7_isCounting_57 : decode cX7_isCounting 57 = .ok (.iload_n 1, 1) := by decide +kernel
theorem dX7_isCounting_58 : decode cX7_isCounting 58 = .ok (.iaload, 1) := by decide +kernel
theorem dX7_isCounting_59 : decode cX7_isCounting 59 = .ok (.if_icmp .ne 22, 3) := by decide +kernel
theorem dX7_isCounting_62 : decode cX7_isCounting 62 = .ok (.aload_n 0, 1) := by decide +kernel
theorem dX7_isCounting_63 : decode cX7_isCounting 63 = .ok (.getfield 32, 3) := by decide +kernel
theorem dX7_isCounting_66 : decode cX7_isCounting 66 = .ok (.iload_n 3, 1) := by decide +kernel
theorem dX7_isCounting_67 : decode cX7_isCounting 67 = .ok (.iaload, 1) := by decide +kernel
theorem dX7_isCounting_68 : decode cX7_isCounting 68 = .ok (.aload_n 0, 1) := by decide +kernel
theorem dX7_isCounting_69 : decode cX7_isCounting 69 = .ok (.getfield 32, 3) := by decide +kernel
theorem dX7_isCounting_72 : decode cX7_isCounting 72 = .ok (.iload_n 1, 1) := by decide +kernel
theorem dX7_isCounting_73 : decode cX7_isCounting 73 = .ok (.iaload, 1) := by decide +kernel
theorem dX7_isCounting_74 : decode cX7_isCounting 74 = .ok (.if_icmp .ne 7, 3) := by decide +kernel
theorem dX7_isCounting_77 : decode cX7_isCounting 77 = .ok (.iconst 1, 1) := by decide +kernel
theorem dX7_isCounting_78 : decode cX7_isCounting 78 = .ok (.goto 4, 3) := by decide +kernel
theorem dX7_isCounting_81 : decode cX7_isCounting 81 = .ok (.iconst 0, 1) := by decide +kernel
theorem dX7_isCounting_82 : decode cX7_isCounting 82 = .ok (.istore 4, 2) := by decide +kernel
theorem dX7_isCounting_84 : decode cX7_isCounting 84 = .ok (.iload 4, 2) := by decide +kernel
theorem dX7_isCounting_86 : decode cX7_isCounting 86 = .ok (.ifCond .eq 18, 3) := by decide +kernel
theorem dX7_isCounting_89 : decode cX7_isCounting 89 = .ok (.aload_n 0, 1) := by decide +kernel
theorem dX7_isCounting_90 : decode cX7_isCounting 90 = .ok (.getfield 16, 3) := by decide +kernel
theorem dX7_isCounting_93 : decode cX7_isCounting 93 = .ok (.iload_n 3, 1) := by decide +kernel
theorem dX7_isCounting_94 : decode cX7_isCounting 94 = .ok (.iaload, 1) := by decide +kernel
theorem dX7_isCounting_95 : decode cX7_isCounting 95 = .ok (.aload_n 0, 1) := by decide +kernel
theorem dX7_isCounting_96 : decode cX7_isCounting 96 = .ok (.getfield 16, 3) := by decide +kernel
theorem dX7_isCounting_99 : decode cX7_isCounting 99 = .ok (.iload_n 1, 1) := by decide +kernel
theorem dX7_isCounting_100 : decode cX7_isCounting 100 = .ok (.iaload, 1) := by decide +kernel
theorem dX7_isCounting_101 : decode cX7_isCounting 101 = .ok (.if_icmp .gt 7, 3) := by decide +kernel
theorem dX7_isCounting_104 : decode cX7_isCounting 104 = .ok (.iconst 1, 1) := by decide +kernel
theorem dX7_isCounting_105 : decode cX7_isCounting 105 = .ok (.goto 4, 3) := by decide +kernel
theorem dX7_isCounting_108 : decode cX7_isCounting 108 = .ok (.iconst 0, 1) := by decide +kernel
theorem dX7_isCounting_109 : decode cX7_isCounting 109 = .ok (.istore_n 2, 1) := by decide +kernel
theorem dX7_isCounting_110 : decode cX7_isCounting 110 = .ok (.iinc 3 1, 3) := by decide +kernel
theorem dX7_isCounting_113 : decode cX7_isCounting 113 = .ok (.goto (-96), 3) := by decide +kernel
theorem dX7_isCounting_116 : decode cX7_isCounting 116 = .ok (.iload_n 2, 1) := by decide +kernel
theorem dX7_isCounting_117 : decode cX7_isCounting 117 = .ok (.ireturn, 1) := by decide +kernel
theorem dX7_isDead_0 : decode cX7_isDead 0 = .ok (.aload_n 0, 1) := by decide +kernel
theorem dX7_isDead_1 : decode cX7_isDead 1 = .ok (.invokevirtual 168, 3) := by decide +kernel
theorem dX7_isDead_4 : decode cX7_isDead 4 = .ok (.aload_n 0, 1) := by decide +kernel
theorem dX7_isDead_5 : decode cX7_isDead 5 = .ok (.iload_n 1, 1) := by decide +kernel
theorem dX7_isDead_6 : decode cX7_isDead 6 = .ok (.invokevirtual 155, 3) := by decide +kernel
theorem dX7_isDead_9 : decode cX7_isDead 9 = .ok (.ifCond .eq 21, 3) := by decide +kernel
theorem dX7_isDead_12 : decode cX7_isDead 12 = .ok (.aload_n 0, 1) := by decide +kernel
theorem dX7_isDead_13 : decode cX7_isDead 13 = .ok (.getfield 7, 3) := by decide +kernel
theorem dX7_isDead_16 : decode cX7_isDead 16 = .ok (.iload_n 1, 1) := by decide +kernel
theorem dX7_isDead_17 : decode cX7_isDead 17 = .ok (.iaload, 1) := by decide +kernel
theorem dX7_isDead_18 : decode cX7_isDead 18 = .ok (.iconst 3, 1) := by decide +kernel
theorem dX7_isDead_19 : decode cX7_isDead 19 = .ok (.if_icmp .eq 15, 3) := by decide +kernel
theorem dX7_isDead_22 : decode cX7_isDead 22 = .ok (.aload_n 0, 1) := by decide +kernel
theorem dX7_isDead_23 : decode cX7_isDead 23 = .ok (.iload_n 1, 1) := by decide +kernel
theorem dX7_isDead_24 : decode cX7_isDead 24 = .ok (.invokevirtual 252, 3) := by decide +kernel
theorem dX7_isDead_27 : decode cX7_isDead 27 = .ok (.ifCond .ne 7, 3) := by decide +kernel
theorem dX7_isDead_30 : decode cX7_isDead 30 = .ok (.iconst 1, 1) := by decide +kernel
theorem dX7_isDead_31 : decode cX7_isDead 31 = .ok (.goto 4, 3) := by decide +kernel
theorem dX7_isDead_34 : decode cX7_isDead 34 = .ok (.iconst 0, 1) := by decide +kernel
theorem dX7_isDead_35 : decode cX7_isDead 35 = .ok (.ireturn, 1) := by decide +kernel
theorem dX7_deadOf_0 : decode cX7_deadOf 0 = .ok (.iconst 0, 1) := by decide +kernel
theorem dX7_deadOf_1 : decode cX7_deadOf 1 = .ok (.istore_n 2, 1) := by decide +kernel
theorem dX7_deadOf_2 : decode cX7_deadOf 2 = .ok (.bipush 16, 2) := by decide +kernel
theorem dX7_deadOf_4 : decode cX7_deadOf 4 = .ok (.iload_n 1, 1) := by decide +kernel
theorem dX7_deadOf_5 : decode cX7_deadOf 5 = .ok (.imul, 1) := by decide +kernel
theorem dX7_deadOf_6 : decode cX7_deadOf 6 = .ok (.istore_n 3, 1) := by decide +kernel
theorem dX7_deadOf_7 : decode cX7_deadOf 7 = .ok (.iload_n 3, 1) := by decide +kernel
theorem dX7_deadOf_8 : decode cX7_deadOf 8 = .ok (.bipush 16, 2) := by decide +kernel
theorem dX7_deadOf_10 : decode cX7_deadOf 10 = .ok (.iload_n 1, 1) := by decide +kernel
theorem dX7_deadOf_11 : decode cX7_deadOf 11 = .ok (.imul, 1) := by decide +kernel
theorem dX7_deadOf_12 : decode cX7_deadOf 12 = .ok (.aload_n 0, 1) := by decide +kernel
theorem dX7_deadOf_13 : decode cX7_deadOf 13 = .ok (.getfield 48, 3) := by decide +kernel
theorem dX7_deadOf_16 : decode cX7_deadOf 16 = .ok (.iload_n 1, 1) := by decide +kernel
theorem dX7_deadOf_17 : decode cX7_deadOf 17 = .ok (.iaload, 1) := by decide +kernel
theorem dX7_deadOf_18 : decode cX7_deadOf 18 = .ok (.iadd, 1) := by decide +kernel
theorem dX7_deadOf_19 : decode cX7_deadOf 19 = .ok (.if_icmp .ge 30, 3) := by decide +kernel
theorem dX7_deadOf_22 : decode cX7_deadOf 22 = .ok (.iload_n 2, 1) := by decide +kernel
theorem dX7_deadOf_23 : decode cX7_deadOf 23 = .ok (.aload_n 0, 1) := by decide +kernel
theorem dX7_deadOf_24 : decode cX7_deadOf 24 = .ok (.iload_n 3, 1) := by decide +kernel
theorem dX7_deadOf_25 : decode cX7_deadOf 25 = .ok (.invokevirtual 255, 3) := by decide +kernel
theorem dX7_deadOf_28 : decode cX7_deadOf 28 = .ok (.ifCond .eq 12, 3) := by decide +kernel
theorem dX7_deadOf_31 : decode cX7_deadOf 31 = .ok (.aload_n 0, 1) := by decide +kernel
theorem dX7_deadOf_32 : decode cX7_deadOf 32 = .ok (.getfield 45, 3) := by decide +kernel
theorem dX7_deadOf_35 : decode cX7_deadOf 35 = .ok (.iload_n 3, 1) := by decide +kernel
theorem dX7_deadOf_36 : decode cX7_deadOf 36 = .ok (.iaload, 1) := by decide +kernel
theorem dX7_deadOf_37 : decode cX7_deadOf 37 = .ok (.goto 4, 3) := by decide +kernel
theorem dX7_deadOf_40 : decode cX7_deadOf 40 = .ok (.iconst 0, 1) := by decide +kernel
theorem dX7_deadOf_41 : decode cX7_deadOf 41 = .ok (.iadd, 1) := by decide +kernel
theorem dX7_deadOf_42 : decode cX7_deadOf 42 = .ok (.istore_n 2, 1) := by decide +kernel
theorem dX7_deadOf_43 : decode cX7_deadOf 43 = .ok (.iinc 3 1, 3) := by decide +kernel
theorem dX7_deadOf_46 : decode cX7_deadOf 46 = .ok (.goto (-39), 3) := by decide +kernel
theorem dX7_deadOf_49 : decode cX7_deadOf 49 = .ok (.iload_n 2, 1) := by decide +kernel
theorem dX7_deadOf_50 : decode cX7_deadOf 50 = .ok (.ireturn, 1) := by decide +kernel
theorem dX7_stateOf_0 : decode cX7_stateOf 0 = .ok (.iload_n 1, 1) := by decide +kernel
theorem dX7_stateOf_1 : decode cX7_stateOf 1 = .ok (.aload_n 0, 1) := by decide +kernel
theorem dX7_stateOf_2 : decode cX7_stateOf 2 = .ok (.getfield 118, 3) := by decide +kernel
theorem dX7_stateOf_5 : decode cX7_stateOf 5 = .ok (.if_icmp .ne 5, 3) := by decide +kernel
theorem dX7_stateOf_8 : decode cX7_stateOf 8 = .ok (.iconst 1, 1) := by decide +kernel
theorem dX7_stateOf_9 : decode cX7_stateOf 9 = .ok (.ireturn, 1) := by decide +kernel
theorem dX7_stateOf_10 : decode cX7_stateOf 10 = .ok (.iconst 0, 1) := by decide +kernel
theorem dX7_stateOf_11 : decode cX7_stateOf 11 = .ok (.istore_n 2, 1) := by decide +kernel
theorem dX7_stateOf_12 : decode cX7_stateOf 12 = .ok (.iload_n 2, 1) := by decide +kernel
theorem dX7_stateOf_13 : decode cX7_stateOf 13 = .ok (.aload_n 0, 1) := by decide +kernel
theorem dX7_stateOf_14 : decode cX7_stateOf 14 = .ok (.getfield 114, 3) := by decide +kernel
theorem dX7_stateOf_17 : decode cX7_stateOf 17 = .ok (.if_icmp .ge 21, 3) := by decide +kernel
theorem dX7_stateOf_20 : decode cX7_stateOf 20 = .ok (.aload_n 0, 1) := by decide +kernel
theorem dX7_stateOf_21 : decode cX7_stateOf 21 = .ok (.getfield 57, 3) := by decide +kernel
theorem dX7_stateOf_24 : decode cX7_stateOf 24 = .ok (.iload_n 2, 1) := by decide +kernel
theorem dX7_stateOf_25 : decode cX7_stateOf 25 = .ok (.iaload, 1) := by decide +kernel
theorem dX7_stateOf_26 : decode cX7_stateOf 26 = .ok (.iload_n 1, 1) := by decide +kernel
theorem dX7_stateOf_27 : decode cX7_stateOf 27 = .ok (.if_icmp .ne 5, 3) := by decide +kernel
theorem dX7_stateOf_30 : decode cX7_stateOf 30 = .ok (.iconst 0, 1) := by decide +kernel
theorem dX7_stateOf_31 : decode cX7_stateOf 31 = .ok (.ireturn, 1) := by decide +kernel
theorem dX7_stateOf_32 : decode cX7_stateOf 32 = .ok (.iinc 2 1, 3) := by decide +kernel
theorem dX7_stateOf_35 : decode cX7_stateOf 35 = .ok (.goto (-23), 3) := by decide +kernel
theorem dX7_stateOf_38 : decode cX7_stateOf 38 = .ok (.iconst 0, 1) := by decide +kernel
theorem dX7_stateOf_39 : decode cX7_stateOf 39 = .ok (.istore_n 2, 1) := by decide +kernel
theorem dX7_stateOf_40 : decode cX7_stateOf 40 = .ok (.bipush 16, 2) := by decide +kernel
theorem dX7_stateOf_42 : decode cX7_stateOf 42 = .ok (.iload_n 1, 1) := by decide +kernel
theorem dX7_stateOf_43 : decode cX7_stateOf 43 = .ok (.imul, 1) := by decide +kernel
theorem dX7_stateOf_44 : decode cX7_stateOf 44 = .ok (.istore_n 3, 1) := by decide +kernel
theorem dX7_stateOf_45 : decode cX7_stateOf 45 = .ok (.iload_n 3, 1) := by decide +kernel
theorem dX7_stateOf_46 : decode cX7_stateOf 46 = .ok (.bipush 16, 2) := by decide +kernel
theorem dX7_stateOf_48 : decode cX7_stateOf 48 = .ok (.iload_n 1, 1) := by decide +kernel
theorem dX7_stateOf_49 : decode cX7_stateOf 49 = .ok (.imul, 1) := by decide +kernel
theorem dX7_stateOf_50 : decode cX7_stateOf 50 = .ok (.aload_n 0, 1) := by decide +kernel
theorem dX7_stateOf_51 : decode cX7_stateOf 51 = .ok (.getfield 48, 3) := by decide +kernel
theorem dX7_stateOf_54 : decode cX7_stateOf 54 = .ok (.iload_n 1, 1) := by decide +kernel
theorem dX7_stateOf_55 : decode cX7_stateOf 55 = .ok (.iaload, 1) := by decide +kernel
theorem dX7_stateOf_56 : decode cX7_stateOf 56 = .ok (.iadd, 1) := by decide +kernel
theorem dX7_stateOf_57 : decode cX7_stateOf 57 = .ok (.if_icmp .ge 40, 3) := by decide +kernel
theorem dX7_stateOf_60 : decode cX7_stateOf 60 = .ok (.iload_n 2, 1) := by decide +kernel
theorem dX7_stateOf_61 : decode cX7_stateOf 61 = .ok (.aload_n 0, 1) := by decide +kernel
theorem dX7_stateOf_62 : decode cX7_stateOf 62 = .ok (.iload_n 3, 1) := by decide +kernel
theorem dX7_stateOf_63 : decode cX7_stateOf 63 = .ok (.invokevirtual 155, 3) := by decide +kernel
theorem dX7_stateOf_66 : decode cX7_stateOf 66 = .ok (.ifCond .eq 17, 3) := by decide +kernel
theorem dX7_stateOf_69 : decode cX7_stateOf 69 = .ok (.aload_n 0, 1) := by decide +kernel
theorem dX7_stateOf_70 : decode cX7_stateOf 70 = .ok (.getfield 7, 3) := by decide +kernel
theorem dX7_stateOf_73 : decode cX7_stateOf 73 = .ok (.iload_n 3, 1) := by decide +kernel
theorem dX7_stateOf_74 : decode cX7_stateOf 74 = .ok (.iaload, 1) := by decide +kernel
theorem dX7_stateOf_75 : decode cX7_stateOf 75 = .ok (.iconst 3, 1) := by decide +kernel
theorem dX7_stateOf_76 : decode cX7_stateOf 76 = .ok (.if_icmp .ne 7, 3) := by decide +kernel
theorem dX7_stateOf_79 : decode cX7_stateOf 79 = .ok (.iconst 0, 1) := by decide +kernel
theorem dX7_stateOf_80 : decode cX7_stateOf 80 = .ok (.goto 9, 3) := by decide +kernel
theorem dX7_stateOf_83 : decode cX7_stateOf 83 = .ok (.aload_n 0, 1) := by decide +kernel
theorem dX7_stateOf_84 : decode cX7_stateOf 84 = .ok (.getfield 45, 3) := by decide +kernel
theorem dX7_stateOf_87 : decode cX7_stateOf 87 = .ok (.iload_n 3, 1) := by decide +kernel
theorem dX7_stateOf_88 : decode cX7_stateOf 88 = .ok (.iaload, 1) := by decide +kernel
theorem dX7_stateOf_89 : decode cX7_stateOf 89 = .ok (.iadd, 1) := by decide +kernel
theorem dX7_stateOf_90 : decode cX7_stateOf 90 = .ok (.istore_n 2, 1) := by decide +kernel
theorem dX7_stateOf_91 : decode cX7_stateOf 91 = .ok (.iinc 3 1, 3) := by decide +kernel
theorem dX7_stateOf_94 : decode cX7_stateOf 94 = .ok (.goto (-49), 3) := by decide +kernel
theorem dX7_stateOf_97 : decode cX7_stateOf 97 = .ok (.aload_n 0, 1) := by decide +kernel
theorem dX7_stateOf_98 : decode cX7_stateOf 98 = .ok (.iload_n 1, 1) := by decide +kernel
theorem dX7_stateOf_99 : decode cX7_stateOf 99 = .ok (.invokevirtual 258, 3) := by decide +kernel
theorem dX7_stateOf_102 : decode cX7_stateOf 102 = .ok (.istore_n 3, 1) := by decide +kernel
theorem dX7_stateOf_103 : decode cX7_stateOf 103 = .ok (.iload_n 3, 1) := by decide +kernel
theorem dX7_stateOf_104 : decode cX7_stateOf 104 = .ok (.ifCond .ne 7, 3) := by decide +kernel
theorem dX7_stateOf_107 : decode cX7_stateOf 107 = .ok (.iconst 2, 1) := by decide +kernel
theorem dX7_stateOf_108 : decode cX7_stateOf 108 = .ok (.goto 15, 3) := by decide +kernel
theorem dX7_stateOf_111 : decode cX7_stateOf 111 = .ok (.iconst 2, 1) := by decide +kernel
theorem dX7_stateOf_112 : decode cX7_stateOf 112 = .ok (.iload_n 3, 1) := by decide +kernel
theorem dX7_stateOf_113 : decode cX7_stateOf 113 = .ok (.imul, 1) := by decide +kernel
theorem dX7_stateOf_114 : decode cX7_stateOf 114 = .ok (.iload_n 2, 1) := by decide +kernel
theorem dX7_stateOf_115 : decode cX7_stateOf 115 = .ok (.if_icmp .lt 7, 3) := by decide +kernel
theorem dX7_stateOf_118 : decode cX7_stateOf 118 = .ok (.iconst 4, 1) := by decide +kernel
theorem dX7_stateOf_119 : decode cX7_stateOf 119 = .ok (.goto 4, 3) := by decide +kernel
theorem dX7_stateOf_122 : decode cX7_stateOf 122 = .ok (.iconst 3, 1) := by decide +kernel
theorem dX7_stateOf_123 : decode cX7_stateOf 123 = .ok (.ireturn, 1) := by decide +kernel
theorem dX7_layCopies_0 : decode cX7_layCopies 0 = .ok (.iconst 0, 1) := by decide +kernel
theorem dX7_layCopies_1 : decode cX7_layCopies 1 = .ok (.istore_n 2, 1) := by decide +kernel
theorem dX7_layCopies_2 : decode cX7_layCopies 2 = .ok (.iload_n 2, 1) := by decide +kernel
theorem dX7_layCopies_3 : decode cX7_layCopies 3 = .ok (.aload_n 0, 1) := by decide +kernel
theorem dX7_layCopies_4 : decode cX7_layCopies 4 = .ok (.getfield 48, 3) := by decide +kernel
theorem dX7_layCopies_7 : decode cX7_layCopies 7 = .ok (.iload_n 1, 1) := by decide +kernel
theorem dX7_layCopies_8 : decode cX7_layCopies 8 = .ok (.iaload, 1) := by decide +kernel
theorem dX7_layCopies_9 : decode cX7_layCopies 9 = .ok (.if_icmp .ge 25, 3) := by decide +kernel
theorem dX7_layCopies_12 : decode cX7_layCopies 12 = .ok (.aload_n 0, 1) := by decide +kernel
theorem dX7_layCopies_13 : decode cX7_layCopies 13 = .ok (.getfield 111, 3) := by decide +kernel
theorem dX7_layCopies_16 : decode cX7_layCopies 16 = .ok (.iload_n 2, 1) := by decide +kernel
theorem dX7_layCopies_17 : decode cX7_layCopies 17 = .ok (.aload_n 0, 1) := by decide +kernel
theorem dX7_layCopies_18 : decode cX7_layCopies 18 = .ok (.bipush 16, 2) := by decide +kernel
theorem dX7_layCopies_20 : decode cX7_layCopies 20 = .ok (.iload_n 1, 1) := by decide +kernel
theorem dX7_layCopies_21 : decode cX7_layCopies 21 = .ok (.imul, 1) := by decide +kernel
theorem dX7_layCopies_22 : decode cX7_layCopies 22 = .ok (.iload_n 2, 1) := by decide +kernel
theorem dX7_layCopies_23 : decode cX7_layCopies 23 = .ok (.iadd, 1) := by decide +kernel
theorem dX7_layCopies_24 : decode cX7_layCopies 24 = .ok (.invokevirtual 255, 3) := by decide +kernel
theorem dX7_layCopies_27 : decode cX7_layCopies 27 = .ok (.bastore, 1) := by decide +kernel
theorem dX7_layCopies_28 : decode cX7_layCopies 28 = .ok (.iinc 2 1, 3) := by decide +kernel
theorem dX7_layCopies_31 : decode cX7_layCopies 31 = .ok (.goto (-29), 3) := by decide +kernel
theorem dX7_layCopies_34 : decode cX7_layCopies 34 = .ok (.aload_n 0, 1) := by decide +kernel
theorem dX7_layCopies_35 : decode cX7_layCopies 35 = .ok (.invokevirtual 162, 3) := by decide +kernel
theorem dX7_layCopies_38 : decode cX7_layCopies 38 = .ok (.iconst 0, 1) := by decide +kernel
theorem dX7_layCopies_39 : decode cX7_layCopies 39 = .ok (.istore_n 2, 1) := by decide +kernel
theorem dX7_layCopies_40 : decode cX7_layCopies 40 = .ok (.iconst 0, 1) := by decide +kernel
theorem dX7_layCopies_41 : decode cX7_layCopies 41 = .ok (.istore_n 3, 1) := by decide +kernel
theorem dX7_layCopies_42 : decode cX7_layCopies 42 = .ok (.iload_n 3, 1) := by decide +kernel
theorem dX7_layCopies_43 : decode cX7_layCopies 43 = .ok (.aload_n 0, 1) := by decide +kernel
theorem dX7_layCopies_44 : decode cX7_layCopies 44 = .ok (.getfield 48, 3) := by decide +kernel
theorem dX7_layCopies_47 : decode cX7_layCopies 47 = .ok (.iload_n 1, 1) := by decide +kernel
theorem dX7_layCopies_48 : decode cX7_layCopies 48 = .ok (.iaload, 1) := by decide +kernel
theorem dX7_layCopies_49 : decode cX7_layCopies 49 = .ok (.if_icmp .ge 90, 3) := by decide +kernel
theorem dX7_layCopies_52 : decode cX7_layCopies 52 = .ok (.bipush 16, 2) := by decide +kernel
theorem dX7_layCopies_54 : decode cX7_layCopies 54 = .ok (.iload_n 1, 1) := by decide +kernel
theorem dX7_layCopies_55 : decode cX7_layCopies 55 = .ok (.imul, 1) := by decide +kernel
theorem dX7_layCopies_56 : decode cX7_layCopies 56 = .ok (.iload_n 3, 1) := by decide +kernel
theorem dX7_layCopies_57 : decode cX7_layCopies 57 = .ok (.iadd, 1) := by decide +kernel
theorem dX7_layCopies_58 : decode cX7_layCopies 58 = .ok (.istore 4, 2) := by decide +kernel
theorem dX7_layCopies_60 : decode cX7_layCopies 60 = .ok (.aload_n 0, 1) := by decide +kernel
theorem dX7_layCopies_61 : decode cX7_layCopies 61 = .ok (.getfield 69, 3) := by decide +kernel
theorem dX7_layCopies_64 : decode cX7_layCopies 64 = .ok (.iload 4, 2) := by decide +kernel
theorem dX7_layCopies_66 : decode cX7_layCopies 66 = .ok (.baload, 1) := by decide +kernel
theorem dX7_layCopies_67 : decode cX7_layCopies 67 = .ok (.ifCond .eq 66, 3) := by decide +kernel
theorem dX7_layCopies_70 : decode cX7_layCopies 70 = .ok (.aload_n 0, 1) := by decide +kernel
theorem dX7_layCopies_71 : decode cX7_layCopies 71 = .ok (.getfield 111, 3) := by decide +kernel
theorem dX7_layCopies_74 : decode cX7_layCopies 74 = .ok (.iload_n 3, 1) := by decide +kernel
theorem dX7_layCopies_75 : decode cX7_layCopies 75 = .ok (.baload, 1) := by decide +kernel
theorem dX7_layCopies_76 : decode cX7_layCopies 76 = .ok (.istore 5, 2) := by decide +kernel
theorem dX7_layCopies_78 : decode cX7_layCopies 78 = .ok (.iload 5, 2) := by decide +kernel
theorem dX7_layCopies_80 : decode cX7_layCopies 80 = .ok (.ifCond .eq 29, 3) := by decide +kernel
theorem dX7_layCopies_83 : decode cX7_layCopies 83 = .ok (.aload_n 0, 1) := by decide +kernel
theorem dX7_layCopies_84 : decode cX7_layCopies 84 = .ok (.iconst 0, 1) := by decide +kernel
theorem dX7_layCopies_85 : decode cX7_layCopies 85 = .ok (.invokevirtual 165, 3) := by decide +kernel
theorem dX7_layCopies_88 : decode cX7_layCopies 88 = .ok (.aload_n 0, 1) := by decide +kernel
theorem dX7_layCopies_89 : decode cX7_layCopies 89 = .ok (.getfield 69, 3) := by decide +kernel
theorem dX7_layCopies_92 : decode cX7_layCopies 92 = .ok (.iload 4, 2) := by decide +kernel
theorem dX7_layCopies_94 : decode cX7_layCopies 94 = .ok (.iconst 0, 1) := by decide +kernel
theorem dX7_layCopies_95 : decode cX7_layCopies 95 = .ok (.bastore, 1) := by decide +kernel
theorem dX7_layCopies_96 : decode cX7_layCopies 96 = .ok (.aload_n 0, 1) := by decide +kernel
theorem dX7_layCopies_97 : decode cX7_layCopies 97 = .ok (.sipush 128, 3) := by decide +kernel
theorem dX7_layCopies_100 : decode cX7_layCopies 100 = .ok (.invokevirtual 165, 3) := by decide +kernel
theorem dX7_layCopies_103 : decode cX7_layCopies 103 = .ok (.aload_n 0, 1) := by decide +kernel
theorem dX7_layCopies_104 : decode cX7_layCopies 104 = .ok (.invokevirtual 261, 3) := by decide +kernel
theorem dX7_layCopies_107 : decode cX7_layCopies 107 = .ok (.istore 5, 2) := by decide +kernel
theorem dX7_layCopies_109 : decode cX7_layCopies 109 = .ok (.iload 5, 2) := by decide +kernel
theorem dX7_layCopies_111 : decode cX7_layCopies 111 = .ok (.ifCond .ne 22, 3) := by decide +kernel
theorem dX7_layCopies_114 : decode cX7_layCopies 114 = .ok (.aload_n 0, 1) := by decide +kernel
theorem dX7_layCopies_115 : decode cX7_layCopies 115 = .ok (.getfield 69, 3) := by decide +kernel
theorem dX7_layCopies_118 : decode cX7_layCopies 118 = .ok (.iload 4, 2) := by decide +kernel
theorem dX7_layCopies_120 : decode cX7_layCopies 120 = .ok (.iconst 1, 1) := by decide +kernel
theorem dX7_layCopies_121 : decode cX7_layCopies 121 = .ok (.bastore, 1) := by decide +kernel
theorem dX7_layCopies_122 : decode cX7_layCopies 122 = .ok (.aload_n 0, 1) := by decide +kernel
theorem dX7_layCopies_123 : decode cX7_layCopies 123 = .ok (.getfield 108, 3) := by decide +kernel
theorem dX7_layCopies_126 : decode cX7_layCopies 126 = .ok (.iload_n 2, 1) := by decide +kernel
theorem dX7_layCopies_127 : decode cX7_layCopies 127 = .ok (.iload 4, 2) := by decide +kernel
theorem dX7_layCopies_129 : decode cX7_layCopies 129 = .ok (.iastore, 1) := by decide +kernel
theorem dX7_layCopies_130 : decode cX7_layCopies 130 = .ok (.iinc 2 1, 3) := by decide +kernel
theorem dX7_layCopies_133 : decode cX7_layCopies 133 = .ok (.iinc 3 1, 3) := by decide +kernel
theorem dX7_layCopies_136 : decode cX7_layCopies 136 = .ok (.goto (-94), 3) := by decide +kernel
theorem dX7_layCopies_139 : decode cX7_layCopies 139 = .ok (.aload_n 0, 1) := by decide +kernel
theorem dX7_layCopies_140 : decode cX7_layCopies 140 = .ok (.iconst 0, 1) := by decide +kernel
theorem dX7_layCopies_141 : decode cX7_layCopies 141 = .ok (.putfield 158, 3) := by decide +kernel
theorem dX7_layCopies_144 : decode cX7_layCopies 144 = .ok (.iload_n 2, 1) := by decide +kernel
theorem dX7_layCopies_145 : decode cX7_layCopies 145 = .ok (.ireturn, 1) := by decide +kernel
theorem dX7_chosen_0 : decode cX7_chosen 0 = .ok (.iload_n 1, 1) := by decide +kernel
theorem dX7_chosen_1 : decode cX7_chosen 1 = .ok (.bipush 64, 2) := by decide +kernel
theorem dX7_chosen_3 : decode cX7_chosen 3 = .ok (.if_icmp .ge 7, 3) := by decide +kernel
theorem dX7_chosen_6 : decode cX7_chosen 6 = .ok (.iconst 0, 1) := by decide +kernel
theorem dX7_chosen_7 : decode cX7_chosen 7 = .ok (.goto 14, 3) := by decide +kernel
theorem dX7_chosen_10 : decode cX7_chosen 10 = .ok (.iload_n 1, 1) := by decide +kernel
theorem dX7_chosen_11 : decode cX7_chosen 11 = .ok (.bipush 120, 2) := by decide +kernel
theorem dX7_chosen_13 : decode cX7_chosen 13 = .ok (.if_icmp .ge 7, 3) := by decide +kernel
theorem dX7_chosen_16 : decode cX7_chosen 16 = .ok (.iconst 1, 1) := by decide +kernel
theorem dX7_chosen_17 : decode cX7_chosen 17 = .ok (.goto 4, 3) := by decide +kernel
theorem dX7_chosen_20 : decode cX7_chosen 20 = .ok (.iconst 2, 1) := by decide +kernel
theorem dX7_chosen_21 : decode cX7_chosen 21 = .ok (.istore_n 2, 1) := by decide +kernel
theorem dX7_chosen_22 : decode cX7_chosen 22 = .ok (.iconst 0, 1) := by decide +kernel
theorem dX7_chosen_23 : decode cX7_chosen 23 = .ok (.istore_n 3, 1) := by decide +kernel
theorem dX7_chosen_24 : decode cX7_chosen 24 = .ok (.iload_n 3, 1) := by decide +kernel
theorem dX7_chosen_25 : decode cX7_chosen 25 = .ok (.iconst 3, 1) := by decide +kernel
theorem dX7_chosen_26 : decode cX7_chosen 26 = .ok (.if_icmp .ge 60, 3) := by decide +kernel
theorem dX7_chosen_29 : decode cX7_chosen 29 = .ok (.iconst 4, 1) := by decide +kernel
theorem dX7_chosen_30 : decode cX7_chosen 30 = .ok (.iload_n 2, 1) := by decide +kernel
theorem dX7_chosen_31 : decode cX7_chosen 31 = .ok (.iload_n 3, 1) := by decide +kernel
theorem dX7_chosen_32 : decode cX7_chosen 32 = .ok (.iadd, 1) := by decide +kernel
theorem dX7_chosen_33 : decode cX7_chosen 33 = .ok (.iconst 3, 1) := by decide +kernel
theorem dX7_chosen_34 : decode cX7_chosen 34 = .ok (.irem, 1) := by decide +kernel
theorem dX7_chosen_35 : decode cX7_chosen 35 = .ok (.isub, 1) := by decide +kernel
theorem dX7_chosen_36 : decode cX7_chosen 36 = .ok (.istore 4, 2) := by decide +kernel
theorem dX7_chosen_38 : decode cX7_chosen 38 = .ok (.iconst 0, 1) := by decide +kernel
theorem dX7_chosen_39 : decode cX7_chosen 39 = .ok (.istore 5, 2) := by decide +kernel
theorem dX7_chosen_41 : decode cX7_chosen 41 = .ok (.iload 5, 2) := by decide +kernel
theorem dX7_chosen_43 : decode cX7_chosen 43 = .ok (.aload_n 0, 1) := by decide +kernel
theorem dX7_chosen_44 : decode cX7_chosen 44 = .ok (.getfield 192, 3) := by decide +kernel
theorem dX7_chosen_47 : decode cX7_chosen 47 = .ok (.if_icmp .ge 33, 3) := by decide +kernel
theorem dX7_chosen_50 : decode cX7_chosen 50 = .ok (.aload_n 0, 1) := by decide +kernel
theorem dX7_chosen_51 : decode cX7_chosen 51 = .ok (.aload_n 0, 1) := by decide +kernel
theorem dX7_chosen_52 : decode cX7_chosen 52 = .ok (.getfield 60, 3) := by decide +kernel
theorem dX7_chosen_55 : decode cX7_chosen 55 = .ok (.iload 5, 2) := by decide +kernel
theorem dX7_chosen_57 : decode cX7_chosen 57 = .ok (.iaload, 1) := by decide +kernel
theorem dX7_chosen_58 : decode cX7_chosen 58 = .ok (.invokevirtual 264, 3) := by decide +kernel
theorem dX7_chosen_61 : decode cX7_chosen 61 = .ok (.iload 4, 2) := by decide +kernel
theorem dX7_chosen_63 : decode cX7_chosen 63 = .ok (.if_icmp .ne 11, 3) := by decide +kernel
theorem dX7_chosen_66 : decode cX7_chosen 66 = .ok (.aload_n 0, 1) := by decide +kernel
theorem dX7_chosen_67 : decode cX7_chosen 67 = .ok (.getfield 60, 3) := by decide +kernel
theorem dX7_chosen_70 : decode cX7_chosen 70 = .ok (.iload 5, 2) := by decide +kernel
theorem dX7_chosen_72 : decode cX7_chosen 72 = .ok (.iaload, 1) := by decide +kernel
theorem dX7_chosen_73 : decode cX7_chosen 73 = .ok (.ireturn, 1) := by decide +kernel
theorem dX7_chosen_74 : decode cX7_chosen 74 = .ok (.iinc 5 1, 3) := by decide +kernel
theorem dX7_chosen_77 : decode cX7_chosen 77 = .ok (.goto (-36), 3) := by decide +kernel
theorem dX7_chosen_80 : decode cX7_chosen 80 = .ok (.iinc 3 1, 3) := by decide +kernel
theorem dX7_chosen_83 : decode cX7_chosen 83 = .ok (.goto (-59), 3) := by decide +kernel
theorem dX7_chosen_86 : decode cX7_chosen 86 = .ok (.iconst (-1), 1) := by decide +kernel
theorem dX7_chosen_87 : decode cX7_chosen 87 = .ok (.ireturn, 1) := by decide +kernel
theorem dX7_erases_0 : decode cX7_erases 0 = .ok (.aload_n 0, 1) := by decide +kernel
theorem dX7_erases_1 : decode cX7_erases 1 = .ok (.invokevirtual 177, 3) := by decide +kernel
theorem dX7_erases_4 : decode cX7_erases 4 = .ok (.ifCond .ne 5, 3) := by decide +kernel
theorem dX7_erases_7 : decode cX7_erases 7 = .ok (.iconst 0, 1) := by decide +kernel
theorem dX7_erases_8 : decode cX7_erases 8 = .ok (.ireturn, 1) := by decide +kernel
theorem dX7_erases_9 : decode cX7_erases 9 = .ok (.aload_n 0, 1) := by decide +kernel
theorem dX7_erases_10 : decode cX7_erases 10 = .ok (.iconst 0, 1) := by decide +kernel
theorem dX7_erases_11 : decode cX7_erases 11 = .ok (.putfield 158, 3) := by decide +kernel
theorem dX7_erases_14 : decode cX7_erases 14 = .ok (.aload_n 0, 1) := by decide +kernel
theorem dX7_erases_15 : decode cX7_erases 15 = .ok (.getfield 48, 3) := by decide +kernel
theorem dX7_erases_18 : decode cX7_erases 18 = .ok (.iload_n 1, 1) := by decide +kernel
theorem dX7_erases_19 : decode cX7_erases 19 = .ok (.iconst 0, 1) := by decide +kernel
theorem dX7_erases_20 : decode cX7_erases 20 = .ok (.iastore, 1) := by decide +kernel
theorem dX7_erases_21 : decode cX7_erases 21 = .ok (.aload_n 0, 1) := by decide +kernel
theorem dX7_erases_22 : decode cX7_erases 22 = .ok (.getfield 51, 3) := by decide +kernel
theorem dX7_erases_25 : decode cX7_erases 25 = .ok (.iload_n 1, 1) := by decide +kernel
theorem dX7_erases_26 : decode cX7_erases 26 = .ok (.iconst 0, 1) := by decide +kernel
theorem dX7_erases_27 : decode cX7_erases 27 = .ok (.iastore, 1) := by decide +kernel
theorem dX7_erases_28 : decode cX7_erases 28 = .ok (.aload_n 0, 1) := by decide +kernel
theorem dX7_erases_29 : decode cX7_erases 29 = .ok (.getfield 54, 3) := by decide +kernel
theorem dX7_erases_32 : decode cX7_erases 32 = .ok (.iload_n 1, 1) := by decide +kernel
theorem dX7_erases_33 : decode cX7_erases 33 = .ok (.dup2, 1) := by decide +kernel
theorem dX7_erases_34 : decode cX7_erases 34 = .ok (.iaload, 1) := by decide +kernel
theorem dX7_erases_35 : decode cX7_erases 35 = .ok (.iconst 1, 1) := by decide +kernel
theorem dX7_erases_36 : decode cX7_erases 36 = .ok (.iadd, 1) := by decide +kernel
theorem dX7_erases_37 : decode cX7_erases 37 = .ok (.iastore, 1) := by decide +kernel
theorem dX7_erases_38 : decode cX7_erases 38 = .ok (.aload_n 0, 1) := by decide +kernel
theorem dX7_erases_39 : decode cX7_erases 39 = .ok (.invokevirtual 177, 3) := by decide +kernel
theorem dX7_erases_42 : decode cX7_erases 42 = .ok (.ifCond .ne 5, 3) := by decide +kernel
theorem dX7_erases_45 : decode cX7_erases 45 = .ok (.iconst 0, 1) := by decide +kernel
theorem dX7_erases_46 : decode cX7_erases 46 = .ok (.ireturn, 1) := by decide +kernel
theorem dX7_erases_47 : decode cX7_erases 47 = .ok (.aload_n 0, 1) := by decide +kernel
theorem dX7_erases_48 : decode cX7_erases 48 = .ok (.getfield 51, 3) := by decide +kernel
theorem dX7_erases_51 : decode cX7_erases 51 = .ok (.iload_n 1, 1) := by decide +kernel
theorem dX7_erases_52 : decode cX7_erases 52 = .ok (.iconst 1, 1) := by decide +kernel
theorem dX7_erases_53 : decode cX7_erases 53 = .ok (.iastore, 1) := by decide +kernel
theorem dX7_erases_54 : decode cX7_erases 54 = .ok (.aload_n 0, 1) := by decide +kernel
theorem dX7_erases_55 : decode cX7_erases 55 = .ok (.getfield 57, 3) := by decide +kernel
theorem dX7_erases_58 : decode cX7_erases 58 = .ok (.aload_n 0, 1) := by decide +kernel
theorem dX7_erases_59 : decode cX7_erases 59 = .ok (.getfield 114, 3) := by decide +kernel
theorem dX7_erases_62 : decode cX7_erases 62 = .ok (.iload_n 1, 1) := by decide +kernel
theorem dX7_erases_63 : decode cX7_erases 63 = .ok (.iastore, 1) := by decide +kernel
theorem dX7_erases_64 : decode cX7_erases 64 = .ok (.aload_n 0, 1) := by decide +kernel
theorem dX7_erases_65 : decode cX7_erases 65 = .ok (.dup, 1) := by decide +kernel
theorem dX7_erases_66 : decode cX7_erases 66 = .ok (.getfield 114, 3) := by decide +kernel
theorem dX7_erases_69 : decode cX7_erases 69 = .ok (.iconst 1, 1) := by decide +kernel
theorem dX7_erases_70 : decode cX7_erases 70 = .ok (.iadd, 1) := by decide +kernel
theorem dX7_erases_71 : decode cX7_erases 71 = .ok (.putfield 114, 3) := by decide +kernel
theorem dX7_erases_74 : decode cX7_erases 74 = .ok (.iconst 1, 1) := by decide +kernel
theorem dX7_erases_75 : decode cX7_erases 75 = .ok (.ireturn, 1) := by decide +kernel
theorem dX7_collect_0 : decode cX7_collect 0 = .ok (.aload_n 0, 1) := by decide +kernel
theorem dX7_collect_1 : decode cX7_collect 1 = .ok (.aload_n 0, 1) := by decide +kernel
theorem dX7_collect_2 : decode cX7_collect 2 = .ok (.getfield 174, 3) := by decide +kernel
theorem dX7_collect_5 : decode cX7_collect 5 = .ok (.ifCond .eq 7, 3) := by decide +kernel
theorem dX7_collect_8 : decode cX7_collect 8 = .ok (.iconst 2, 1) := by decide +kernel
theorem dX7_collect_9 : decode cX7_collect 9 = .ok (.goto 29, 3) := by decide +kernel
theorem dX7_collect_12 : decode cX7_collect 12 = .ok (.iload_n 1, 1) := by decide +kernel
theorem dX7_collect_13 : decode cX7_collect 13 = .ok (.iconst 0, 1) := by decide +kernel
theorem dX7_collect_14 : decode cX7_collect 14 = .ok (.bipush 127, 2) := by decide +kernel
theorem dX7_collect_16 : decode cX7_collect 16 = .ok (.invokestatic 210, 3) := by decide +kernel
theorem dX7_collect_19 : decode cX7_collect 19 = .ok (.ifCond .ne 7, 3) := by decide +kernel
theorem dX7_collect_22 : decode cX7_collect 22 = .ok (.iconst 1, 1) := by decide +kernel
theorem dX7_collect_23 : decode cX7_collect 23 = .ok (.goto 15, 3) := by decide +kernel
theorem dX7_collect_26 : decode cX7_collect 26 = .ok (.aload_n 0, 1) := by decide +kernel
theorem dX7_collect_27 : decode cX7_collect 27 = .ok (.getfield 192, 3) := by decide +kernel
theorem dX7_collect_30 : decode cX7_collect 30 = .ok (.ifCond .ne 7, 3) := by decide +kernel
theorem dX7_collect_33 : decode cX7_collect 33 = .ok (.iconst 2, 1) := by decide +kernel
theorem dX7_collect_34 : decode cX7_collect 34 = .ok (.goto 4, 3) := by decide +kernel
theorem dX7_collect_37 : decode cX7_collect 37 = .ok (.iconst 0, 1) := by decide +kernel
theorem dX7_collect_38 : decode cX7_collect 38 = .ok (.putfield 127, 3) := by decide +kernel
theorem dX7_collect_41 : decode cX7_collect 41 = .ok (.aload_n 0, 1) := by decide +kernel
theorem dX7_collect_42 : decode cX7_collect 42 = .ok (.getfield 127, 3) := by decide +kernel
theorem dX7_collect_45 : decode cX7_collect 45 = .ok (.ifCond .le 5, 3) := by decide +kernel
theorem dX7_collect_48 : decode cX7_collect 48 = .ok (.iconst 0, 1) := by decide +kernel
theorem dX7_collect_49 : decode cX7_collect 49 = .ok (.ireturn, 1) := by decide +kernel
theorem dX7_collect_50 : decode cX7_collect 50 = .ok (.aload_n 0, 1) := by decide +kernel
theorem dX7_collect_51 : decode cX7_collect 51 = .ok (.iload_n 1, 1) := by decide +kernel
theorem dX7_collect_52 : decode cX7_collect 52 = .ok (.invokevirtual 267, 3) := by decide +kernel
theorem dX7_collect_55 : decode cX7_collect 55 = .ok (.istore_n 2, 1) := by decide +kernel
theorem dX7_collect_56 : decode cX7_collect 56 = .ok (.aload_n 0, 1) := by decide +kernel
theorem dX7_collect_57 : decode cX7_collect 57 = .ok (.iload_n 2, 1) := by decide +kernel
theorem dX7_collect_58 : decode cX7_collect 58 = .ok (.invokevirtual 270, 3) := by decide +kernel
theorem dX7_collect_61 : decode cX7_collect 61 = .ok (.istore_n 3, 1) := by decide +kernel
theorem dX7_collect_62 : decode cX7_collect 62 = .ok (.iconst 0, 1) := by decide +kernel
theorem dX7_collect_63 : decode cX7_collect 63 = .ok (.istore 4, 2) := by decide +kernel
theorem dX7_collect_65 : decode cX7_collect 65 = .ok (.iload 4, 2) := by decide +kernel
theorem dX7_collect_67 : decode cX7_collect 67 = .ok (.iload_n 3, 1) := by decide +kernel
theorem dX7_collect_68 : decode cX7_collect 68 = .ok (.if_icmp .ge 28, 3) := by decide +kernel
theorem dX7_collect_71 : decode cX7_collect 71 = .ok (.aload_n 0, 1) := by decide +kernel
theorem dX7_collect_72 : decode cX7_collect 72 = .ok (.getfield 102, 3) := by decide +kernel
theorem dX7_collect_75 : decode cX7_collect 75 = .ok (.iload 4, 2) := by decide +kernel
theorem dX7_collect_77 : decode cX7_collect 77 = .ok (.aload_n 0, 1) := by decide +kernel
theorem dX7_collect_78 : decode cX7_collect 78 = .ok (.getfield 42, 3) := by decide +kernel
theorem dX7_collect_81 : decode cX7_collect 81 = .ok (.aload_n 0, 1) := by decide +kernel
theorem dX7_collect_82 : decode cX7_collect 82 = .ok (.getfield 108, 3) := by decide +kernel
theorem dX7_collect_85 : decode cX7_collect 85 = .ok (.iload 4, 2) := by decide +kernel
theorem dX7_collect_87 : decode cX7_collect 87 = .ok (.iaload, 1) := by decide +kernel
theorem dX7_collect_88 : decode cX7_collect 88 = .ok (.iaload, 1) := by decide +kernel
theorem dX7_collect_89 : decode cX7_collect 89 = .ok (.iastore, 1) := by decide +kernel
theorem dX7_collect_90 : decode cX7_collect 90 = .ok (.iinc 4 1, 3) := by decide +kernel
theorem dX7_collect_93 : decode cX7_collect 93 = .ok (.goto (-28), 3) := by decide +kernel
theorem dX7_collect_96 : decode cX7_collect 96 = .ok (.aload_n 0, 1) := by decide +kernel
theorem dX7_collect_97 : decode cX7_collect 97 = .ok (.aload_n 0, 1) := by decide +kernel
theorem dX7_collect_98 : decode cX7_collect 98 = .ok (.iload_n 3, 1) := by decide +kernel
theorem dX7_collect_99 : decode cX7_collect 99 = .ok (.aload_n 0, 1) := by decide +kernel
theorem dX7_collect_100 : decode cX7_collect 100 = .ok (.getfield 114, 3) := by decide +kernel
theorem dX7_collect_103 : decode cX7_collect 103 = .ok (.invokevirtual 206, 3) := by decide +kernel
theorem dX7_collect_106 : decode cX7_collect 106 = .ok (.ifCond .eq 7, 3) := by decide +kernel
theorem dX7_collect_109 : decode cX7_collect 109 = .ok (.iconst 0, 1) := by decide +kernel
theorem dX7_collect_110 : decode cX7_collect 110 = .ok (.goto 4, 3) := by decide +kernel
theorem dX7_collect_113 : decode cX7_collect 113 = .ok (.iconst 2, 1) := by decide +kernel
theorem dX7_collect_114 : decode cX7_collect 114 = .ok (.putfield 127, 3) := by decide +kernel
theorem dX7_collect_117 : decode cX7_collect 117 = .ok (.aload_n 0, 1) := by decide +kernel
theorem dX7_collect_118 : decode cX7_collect 118 = .ok (.getfield 127, 3) := by decide +kernel
theorem dX7_collect_121 : decode cX7_collect 121 = .ok (.ifCond .le 5, 3) := by decide +kernel
theorem dX7_collect_124 : decode cX7_collect 124 = .ok (.iconst 0, 1) := by decide +kernel
theorem dX7_collect_125 : decode cX7_collect 125 = .ok (.ireturn, 1) := by decide +kernel
theorem dX7_collect_126 : decode cX7_collect 126 = .ok (.iconst 0, 1) := by decide +kernel
theorem dX7_collect_127 : decode cX7_collect 127 = .ok (.istore 4, 2) := by decide +kernel
theorem dX7_collect_129 : decode cX7_collect 129 = .ok (.iload 4, 2) := by decide +kernel
theorem dX7_collect_131 : decode cX7_collect 131 = .ok (.iload_n 3, 1) := by decide +kernel
theorem dX7_collect_132 : decode cX7_collect 132 = .ok (.if_icmp .ge 127, 3) := by decide +kernel
theorem dX7_collect_135 : decode cX7_collect 135 = .ok (.aload_n 0, 1) := by decide +kernel
theorem dX7_collect_136 : decode cX7_collect 136 = .ok (.getfield 108, 3) := by decide +kernel
theorem dX7_collect_139 : decode cX7_collect 139 = .ok (.iload 4, 2) := by decide +kernel
theorem dX7_collect_141 : decode cX7_collect 141 = .ok (.iaload, 1) := by decide +kernel
theorem dX7_collect_142 : decode cX7_collect 142 = .ok (.istore 5, 2) := by decide +kernel
theorem dX7_collect_144 : decode cX7_collect 144 = .ok (.aload_n 0, 1) := by decide +kernel
theorem dX7_collect_145 : decode cX7_collect 145 = .ok (.getfield 7, 3) := by decide +kernel
theorem dX7_collect_148 : decode cX7_collect 148 = .ok (.iload 5, 2) := by decide +kernel
theorem dX7_collect_150 : decode cX7_collect 150 = .ok (.iaload, 1) := by decide +kernel
theorem dX7_collect_151 : decode cX7_collect 151 = .ok (.iconst 1, 1) := by decide +kernel
theorem dX7_collect_152 : decode cX7_collect 152 = .ok (.if_icmp .ne 52, 3) := by decide +kernel
theorem dX7_collect_155 : decode cX7_collect 155 = .ok (.aload_n 0, 1) := by decide +kernel
theorem dX7_collect_156 : decode cX7_collect 156 = .ok (.aload_n 0, 1) := by decide +kernel
theorem dX7_collect_157 : decode cX7_collect 157 = .ok (.getfield 13, 3) := by decide +kernel
theorem dX7_collect_160 : decode cX7_collect 160 = .ok (.iload 5, 2) := by decide +kernel
theorem dX7_collect_162 : decode cX7_collect 162 = .ok (.iaload, 1) := by decide +kernel
theorem dX7_collect_163 : decode cX7_collect 163 = .ok (.aload_n 0, 1) := by decide +kernel
theorem dX7_collect_164 : decode cX7_collect 164 = .ok (.getfield 16, 3) := by decide +kernel
theorem dX7_collect_167 : decode cX7_collect 167 = .ok (.iload 5, 2) := by decide +kernel
theorem dX7_collect_169 : decode cX7_collect 169 = .ok (.iaload, 1) := by decide +kernel
theorem dX7_collect_170 : decode cX7_collect 170 = .ok (.aload_n 0, 1) := by decide +kernel
theorem dX7_collect_171 : decode cX7_collect 171 = .ok (.getfield 19, 3) := by decide +kernel
theorem dX7_collect_174 : decode cX7_collect 174 = .ok (.iload 5, 2) := by decide +kernel
theorem dX7_collect_176 : decode cX7_collect 176 = .ok (.iaload, 1) := by decide +kernel
theorem dX7_collect_177 : decode cX7_collect 177 = .ok (.aload_n 0, 1) := by decide +kernel
theorem dX7_collect_178 : decode cX7_collect 178 = .ok (.getfield 25, 3) := by decide +kernel
theorem dX7_collect_181 : decode cX7_collect 181 = .ok (.iload 5, 2) := by decide +kernel
theorem dX7_collect_183 : decode cX7_collect 183 = .ok (.laload, 1) := by decide +kernel
theorem dX7_collect_184 : decode cX7_collect 184 = .ok (.aload_n 0, 1) := by decide +kernel
theorem dX7_collect_185 : decode cX7_collect 185 = .ok (.getfield 22, 3) := by decide +kernel
theorem dX7_collect_188 : decode cX7_collect 188 = .ok (.iload 5, 2) := by decide +kernel
theorem dX7_collect_190 : decode cX7_collect 190 = .ok (.iaload, 1) := by decide +kernel
theorem dX7_collect_191 : decode cX7_collect 191 = .ok (.aload_n 0, 1) := by decide +kernel
theorem dX7_collect_192 : decode cX7_collect 192 = .ok (.getfield 29, 3) := by decide +kernel
theorem dX7_collect_195 : decode cX7_collect 195 = .ok (.iload 5, 2) := by decide +kernel
theorem dX7_collect_197 : decode cX7_collect 197 = .ok (.iaload, 1) := by decide +kernel
theorem dX7_collect_198 : decode cX7_collect 198 = .ok (.invokevirtual 198, 3) := by decide +kernel
theorem dX7_collect_201 : decode cX7_collect 201 = .ok (.goto 42, 3) := by decide +kernel
theorem dX7_collect_204 : decode cX7_collect 204 = .ok (.aload_n 0, 1) := by decide +kernel
theorem dX7_collect_205 : decode cX7_collect 205 = .ok (.aload_n 0, 1) := by decide +kernel
theorem dX7_collect_206 : decode cX7_collect 206 = .ok (.getfield 13, 3) := by decide +kernel
theorem dX7_collect_209 : decode cX7_collect 209 = .ok (.iload 5, 2) := by decide +kernel
theorem dX7_collect_211 : decode cX7_collect 211 = .ok (.iaload, 1) := by decide +kernel
theorem dX7_collect_212 : decode cX7_collect 212 = .ok (.aload_n 0, 1) := by decide +kernel
theorem dX7_collect_213 : decode cX7_collect 213 = .ok (.getfield 16, 3) := by decide +kernel
theorem dX7_collect_216 : decode cX7_collect 216 = .ok (.iload 5, 2) := by decide +kernel
theorem dX7_collect_218 : decode cX7_collect 218 = .ok (.iaload, 1) := by decide +kernel
theorem dX7_collect_219 : decode cX7_collect 219 = .ok (.aload_n 0, 1) := by decide +kernel
theorem dX7_collect_220 : decode cX7_collect 220 = .ok (.getfield 32, 3) := by decide +kernel
theorem dX7_collect_223 : decode cX7_collect 223 = .ok (.iload 5, 2) := by decide +kernel
theorem dX7_collect_225 : decode cX7_collect 225 = .ok (.iaload, 1) := by decide +kernel
theorem dX7_collect_226 : decode cX7_collect 226 = .ok (.aload_n 0, 1) := by decide +kernel
theorem dX7_collect_227 : decode cX7_collect 227 = .ok (.getfield 35, 3) := by decide +kernel
theorem dX7_collect_230 : decode cX7_collect 230 = .ok (.iload 5, 2) := by decide +kernel
theorem dX7_collect_232 : decode cX7_collect 232 = .ok (.iaload, 1) := by decide +kernel
theorem dX7_collect_233 : decode cX7_collect 233 = .ok (.aload_n 0, 1) := by decide +kernel
theorem dX7_collect_234 : decode cX7_collect 234 = .ok (.getfield 38, 3) := by decide +kernel
theorem dX7_collect_237 : decode cX7_collect 237 = .ok (.iload 5, 2) := by decide +kernel
theorem dX7_collect_239 : decode cX7_collect 239 = .ok (.baload, 1) := by decide +kernel
theorem dX7_collect_240 : decode cX7_collect 240 = .ok (.invokevirtual 202, 3) := by decide +kernel
theorem dX7_collect_243 : decode cX7_collect 243 = .ok (.istore 6, 2) := by decide +kernel
theorem dX7_collect_245 : decode cX7_collect 245 = .ok (.iload 6, 2) := by decide +kernel
theorem dX7_collect_247 : decode cX7_collect 247 = .ok (.ifCond .ne 6, 3) := by decide +kernel
theorem dX7_collect_250 : decode cX7_collect 250 = .ok (.bipush (-9), 2) := by decide +kernel
theorem dX7_collect_252 : decode cX7_collect 252 = .ok (.ireturn, 1) := by decide +kernel
theorem dX7_collect_253 : decode cX7_collect 253 = .ok (.iinc 4 1, 3) := by decide +kernel
theorem dX7_collect_256 : decode cX7_collect 256 = .ok (.goto (-127), 3) := by decide +kernel
theorem dX7_collect_259 : decode cX7_collect 259 = .ok (.iconst 0, 1) := by decide +kernel
theorem dX7_collect_260 : decode cX7_collect 260 = .ok (.istore 4, 2) := by decide +kernel
theorem dX7_collect_262 : decode cX7_collect 262 = .ok (.aload_n 0, 1) := by decide +kernel
theorem dX7_collect_263 : decode cX7_collect 263 = .ok (.getfield 60, 3) := by decide +kernel
theorem dX7_collect_266 : decode cX7_collect 266 = .ok (.iload 4, 2) := by decide +kernel
theorem dX7_collect_268 : decode cX7_collect 268 = .ok (.iaload, 1) := by decide +kernel
theorem dX7_collect_269 : decode cX7_collect 269 = .ok (.iload_n 2, 1) := by decide +kernel
theorem dX7_collect_270 : decode cX7_collect 270 = .ok (.if_icmp .eq 9, 3) := by decide +kernel
theorem dX7_collect_273 : decode cX7_collect 273 = .ok (.iinc 4 1, 3) := by decide +kernel
theorem dX7_collect_276 : decode cX7_collect 276 = .ok (.goto (-14), 3) := by decide +kernel
theorem dX7_collect_279 : decode cX7_collect 279 = .ok (.aload_n 0, 1) := by decide +kernel
theorem dX7_collect_280 : decode cX7_collect 280 = .ok (.dup, 1) := by decide +kernel
theorem dX7_collect_281 : decode cX7_collect 281 = .ok (.getfield 192, 3) := by decide +kernel
theorem dX7_collect_284 : decode cX7_collect 284 = .ok (.iconst 1, 1) := by decide +kernel
theorem dX7_collect_285 : decode cX7_collect 285 = .ok (.isub, 1) := by decide +kernel
theorem dX7_collect_286 : decode cX7_collect 286 = .ok (.putfield 192, 3) := by decide +kernel
theorem dX7_collect_289 : decode cX7_collect 289 = .ok (.iload 4, 2) := by decide +kernel
theorem dX7_collect_291 : decode cX7_collect 291 = .ok (.istore 5, 2) := by decide +kernel
theorem dX7_collect_293 : decode cX7_collect 293 = .ok (.iload 5, 2) := by decide +kernel
theorem dX7_collect_295 : decode cX7_collect 295 = .ok (.aload_n 0, 1) := by decide +kernel
theorem dX7_collect_296 : decode cX7_collect 296 = .ok (.getfield 192, 3) := by decide +kernel
theorem dX7_collect_299 : decode cX7_collect 299 = .ok (.if_icmp .ge 25, 3) := by decide +kernel
theorem dX7_collect_302 : decode cX7_collect 302 = .ok (.aload_n 0, 1) := by decide +kernel
theorem dX7_collect_303 : decode cX7_collect 303 = .ok (.getfield 60, 3) := by decide +kernel
theorem dX7_collect_306 : decode cX7_collect 306 = .ok (.iload 5, 2) := by decide +kernel
theorem dX7_collect_308 : decode cX7_collect 308 = .ok (.aload_n 0, 1) := by decide +kernel
theorem dX7_collect_309 : decode cX7_collect 309 = .ok (.getfield 60, 3) := by decide +kernel
theorem dX7_collect_312 : decode cX7_collect 312 = .ok (.iload 5, 2) := by decide +kernel
theorem dX7_collect_314 : decode cX7_collect 314 = .ok (.iconst 1, 1) := by decide +kernel
theorem dX7_collect_315 : decode cX7_collect 315 = .ok (.iadd, 1) := by decide +kernel
theorem dX7_collect_316 : decode cX7_collect 316 = .ok (.iaload, 1) := by decide +kernel
theorem dX7_collect_317 : decode cX7_collect 317 = .ok (.iastore, 1) := by decide +kernel
theorem dX7_collect_318 : decode cX7_collect 318 = .ok (.iinc 5 1, 3) := by decide +kernel
theorem dX7_collect_321 : decode cX7_collect 321 = .ok (.goto (-28), 3) := by decide +kernel
theorem dX7_collect_324 : decode cX7_collect 324 = .ok (.aload_n 0, 1) := by decide +kernel
theorem dX7_collect_325 : decode cX7_collect 325 = .ok (.iload_n 2, 1) := by decide +kernel
theorem dX7_collect_326 : decode cX7_collect 326 = .ok (.invokevirtual 273, 3) := by decide +kernel
theorem dX7_collect_329 : decode cX7_collect 329 = .ok (.ifCond .eq 7, 3) := by decide +kernel
theorem dX7_collect_332 : decode cX7_collect 332 = .ok (.iload_n 2, 1) := by decide +kernel
theorem dX7_collect_333 : decode cX7_collect 333 = .ok (.goto 5, 3) := by decide +kernel
theorem dX7_collect_336 : decode cX7_collect 336 = .ok (.bipush (-9), 2) := by decide +kernel
theorem dX7_collect_338 : decode cX7_collect 338 = .ok (.ireturn, 1) := by decide +kernel
theorem dX7_cut_0 : decode cX7_cut 0 = .ok (.aload_n 0, 1) := by decide +kernel
theorem dX7_cut_1 : decode cX7_cut 1 = .ok (.iload_n 1, 1) := by decide +kernel
theorem dX7_cut_2 : decode cX7_cut 2 = .ok (.iconst (-1), 1) := by decide +kernel
theorem dX7_cut_3 : decode cX7_cut 3 = .ok (.sipush 1000, 3) := by decide +kernel
theorem dX7_cut_6 : decode cX7_cut 6 = .ok (.invokestatic 210, 3) := by decide +kernel
theorem dX7_cut_9 : decode cX7_cut 9 = .ok (.ifCond .eq 7, 3) := by decide +kernel
theorem dX7_cut_12 : decode cX7_cut 12 = .ok (.iconst 0, 1) := by decide +kernel
theorem dX7_cut_13 : decode cX7_cut 13 = .ok (.goto 4, 3) := by decide +kernel
theorem dX7_cut_16 : decode cX7_cut 16 = .ok (.iconst 1, 1) := by decide +kernel
theorem dX7_cut_17 : decode cX7_cut 17 = .ok (.putfield 127, 3) := by decide +kernel
theorem dX7_cut_20 : decode cX7_cut 20 = .ok (.aload_n 0, 1) := by decide +kernel
theorem dX7_cut_21 : decode cX7_cut 21 = .ok (.getfield 127, 3) := by decide +kernel
theorem dX7_cut_24 : decode cX7_cut 24 = .ok (.ifCond .le 5, 3) := by decide +kernel
theorem dX7_cut_27 : decode cX7_cut 27 = .ok (.iconst 0, 1) := by decide +kernel
theorem dX7_cut_28 : decode cX7_cut 28 = .ok (.ireturn, 1) := by decide +kernel
theorem dX7_cut_29 : decode cX7_cut 29 = .ok (.aload_n 0, 1) := by decide +kernel
theorem dX7_cut_30 : decode cX7_cut 30 = .ok (.getfield 121, 3) := by decide +kernel
theorem dX7_cut_33 : decode cX7_cut 33 = .ok (.istore_n 2, 1) := by decide +kernel
theorem dX7_cut_34 : decode cX7_cut 34 = .ok (.aload_n 0, 1) := by decide +kernel
theorem dX7_cut_35 : decode cX7_cut 35 = .ok (.iload_n 1, 1) := by decide +kernel
theorem dX7_cut_36 : decode cX7_cut 36 = .ok (.putfield 121, 3) := by decide +kernel
theorem dX7_cut_39 : decode cX7_cut 39 = .ok (.iload_n 2, 1) := by decide +kernel
theorem dX7_cut_40 : decode cX7_cut 40 = .ok (.ireturn, 1) := by decide +kernel
theorem dX7_hasSummary_0 : decode cX7_hasSummary 0 = .ok (.iconst 0, 1) := by decide +kernel
theorem dX7_hasSummary_1 : decode cX7_hasSummary 1 = .ok (.istore_n 2, 1) := by decide +kernel
theorem dX7_hasSummary_2 : decode cX7_hasSummary 2 = .ok (.bipush 16, 2) := by decide +kernel
theorem dX7_hasSummary_4 : decode cX7_hasSummary 4 = .ok (.iload_n 1, 1) := by decide +kernel
theorem dX7_hasSummary_5 : decode cX7_hasSummary 5 = .ok (.imul, 1) := by decide +kernel
theorem dX7_hasSummary_6 : decode cX7_hasSummary 6 = .ok (.istore_n 3, 1) := by decide +kernel
theorem dX7_hasSummary_7 : decode cX7_hasSummary 7 = .ok (.iload_n 3, 1) := by decide +kernel
theorem dX7_hasSummary_8 : decode cX7_hasSummary 8 = .ok (.bipush 16, 2) := by decide +kernel
theorem dX7_hasSummary_10 : decode cX7_hasSummary 10 = .ok (.iload_n 1, 1) := by decide +kernel
theorem dX7_hasSummary_11 : decode cX7_hasSummary 11 = .ok (.imul, 1) := by decide +kernel
theorem dX7_hasSummary_12 : decode cX7_hasSummary 12 = .ok (.aload_n 0, 1) := by decide +kernel
theorem dX7_hasSummary_13 : decode cX7_hasSummary 13 = .ok (.getfield 48, 3) := by decide +kernel
theorem dX7_hasSummary_16 : decode cX7_hasSummary 16 = .ok (.iload_n 1, 1) := by decide +kernel
theorem dX7_hasSummary_17 : decode cX7_hasSummary 17 = .ok (.iaload, 1) := by decide +kernel
theorem dX7_hasSummary_18 : decode cX7_hasSummary 18 = .ok (.iadd, 1) := by decide +kernel
theorem dX7_hasSummary_19 : decode cX7_hasSummary 19 = .ok (.if_icmp .ge 29, 3) := by decide +kernel
theorem dX7_hasSummary_22 : decode cX7_hasSummary 22 = .ok (.iload_n 2, 1) := by decide +kernel
theorem dX7_hasSummary_23 : decode cX7_hasSummary 23 = .ok (.ifCond .ne 13, 3) := by decide +kernel
theorem dX7_hasSummary_26 : decode cX7_hasSummary 26 = .ok (.aload_n 0, 1) := by decide +kernel
theorem dX7_hasSummary_27 : decode cX7_hasSummary 27 = .ok (.getfield 7, 3) := by decide +kernel
theorem dX7_hasSummary_30 : decode cX7_hasSummary 30 = .ok (.iload_n 3, 1) := by decide +kernel
theorem dX7_hasSummary_31 : decode cX7_hasSummary 31 = .ok (.iaload, 1) := by decide +kernel
theorem dX7_hasSummary_32 : decode cX7_hasSummary 32 = .ok (.iconst 3, 1) := by decide +kernel
theorem dX7_hasSummary_33 : decode cX7_hasSummary 33 = .ok (.if_icmp .ne 7, 3) := by decide +kernel
theorem dX7_hasSummary_36 : decode cX7_hasSummary 36 = .ok (.iconst 1, 1) := by decide +kernel
theorem dX7_hasSummary_37 : decode cX7_hasSummary 37 = .ok (.goto 4, 3) := by decide +kernel
theorem dX7_hasSummary_40 : decode cX7_hasSummary 40 = .ok (.iconst 0, 1) := by decide +kernel
theorem dX7_hasSummary_41 : decode cX7_hasSummary 41 = .ok (.istore_n 2, 1) := by decide +kernel
theorem dX7_hasSummary_42 : decode cX7_hasSummary 42 = .ok (.iinc 3 1, 3) := by decide +kernel
theorem dX7_hasSummary_45 : decode cX7_hasSummary 45 = .ok (.goto (-38), 3) := by decide +kernel
theorem dX7_hasSummary_48 : decode cX7_hasSummary 48 = .ok (.iload_n 2, 1) := by decide +kernel
theorem dX7_hasSummary_49 : decode cX7_hasSummary 49 = .ok (.ireturn, 1) := by decide +kernel
theorem dX7_hasTorn_0 : decode cX7_hasTorn 0 = .ok (.iconst 0, 1) := by decide +kernel
theorem dX7_hasTorn_1 : decode cX7_hasTorn 1 = .ok (.istore_n 2, 1) := by decide +kernel
theorem dX7_hasTorn_2 : decode cX7_hasTorn 2 = .ok (.bipush 16, 2) := by decide +kernel
theorem dX7_hasTorn_4 : decode cX7_hasTorn 4 = .ok (.iload_n 1, 1) := by decide +kernel
theorem dX7_hasTorn_5 : decode cX7_hasTorn 5 = .ok (.imul, 1) := by decide +kernel
theorem dX7_hasTorn_6 : decode cX7_hasTorn 6 = .ok (.istore_n 3, 1) := by decide +kernel
theorem dX7_hasTorn_7 : decode cX7_hasTorn 7 = .ok (.iload_n 3, 1) := by decide +kernel
theorem dX7_hasTorn_8 : decode cX7_hasTorn 8 = .ok (.bipush 16, 2) := by decide +kernel
theorem dX7_hasTorn_10 : decode cX7_hasTorn 10 = .ok (.iload_n 1, 1) := by decide +kernel
theorem dX7_hasTorn_11 : decode cX7_hasTorn 11 = .ok (.imul, 1) := by decide +kernel
theorem dX7_hasTorn_12 : decode cX7_hasTorn 12 = .ok (.aload_n 0, 1) := by decide +kernel
theorem dX7_hasTorn_13 : decode cX7_hasTorn 13 = .ok (.getfield 48, 3) := by decide +kernel
theorem dX7_hasTorn_16 : decode cX7_hasTorn 16 = .ok (.iload_n 1, 1) := by decide +kernel
theorem dX7_hasTorn_17 : decode cX7_hasTorn 17 = .ok (.iaload, 1) := by decide +kernel
theorem dX7_hasTorn_18 : decode cX7_hasTorn 18 = .ok (.iadd, 1) := by decide +kernel
theorem dX7_hasTorn_19 : decode cX7_hasTorn 19 = .ok (.if_icmp .ge 27, 3) := by decide +kernel
theorem dX7_hasTorn_22 : decode cX7_hasTorn 22 = .ok (.iload_n 2, 1) := by decide +kernel
theorem dX7_hasTorn_23 : decode cX7_hasTorn 23 = .ok (.ifCond .ne 11, 3) := by decide +kernel
theorem dX7_hasTorn_26 : decode cX7_hasTorn 26 = .ok (.aload_n 0, 1) := by decide +kernel
theorem dX7_hasTorn_27 : decode cX7_hasTorn 27 = .ok (.iload_n 3, 1) := by decide +kernel
theorem dX7_hasTorn_28 : decode cX7_hasTorn 28 = .ok (.invokevirtual 155, 3) := by decide +kernel
theorem dX7_hasTorn_31 : decode cX7_hasTorn 31 = .ok (.ifCond .ne 7, 3) := by decide +kernel
theorem dX7_hasTorn_34 : decode cX7_hasTorn 34 = .ok (.iconst 1, 1) := by decide +kernel
theorem dX7_hasTorn_35 : decode cX7_hasTorn 35 = .ok (.goto 4, 3) := by decide +kernel
theorem dX7_hasTorn_38 : decode cX7_hasTorn 38 = .ok (.iconst 0, 1) := by decide +kernel
theorem dX7_hasTorn_39 : decode cX7_hasTorn 39 = .ok (.istore_n 2, 1) := by decide +kernel
theorem dX7_hasTorn_40 : decode cX7_hasTorn 40 = .ok (.iinc 3 1, 3) := by decide +kernel
theorem dX7_hasTorn_43 : decode cX7_hasTorn 43 = .ok (.goto (-36), 3) := by decide +kernel
theorem dX7_hasTorn_46 : decode cX7_hasTorn 46 = .ok (.iload_n 2, 1) := by decide +kernel
theorem dX7_hasTorn_47 : decode cX7_hasTorn 47 = .ok (.ireturn, 1) := by decide +kernel
theorem dX7_layVersions_0 : decode cX7_layVersions 0 = .ok (.aload_n 0, 1) := by decide +kernel
theorem dX7_layVersions_1 : decode cX7_layVersions 1 = .ok (.iconst 2, 1) := by decide +kernel
theorem dX7_layVersions_2 : decode cX7_layVersions 2 = .ok (.putfield 124, 3) := by decide +kernel
theorem dX7_layVersions_5 : decode cX7_layVersions 5 = .ok (.iconst 0, 1) := by decide +kernel
theorem dX7_layVersions_6 : decode cX7_layVersions 6 = .ok (.istore_n 1, 1) := by decide +kernel
theorem dX7_layVersions_7 : decode cX7_layVersions 7 = .ok (.iload_n 1, 1) := by decide +kernel
theorem dX7_layVersions_8 : decode cX7_layVersions 8 = .ok (.sipush 2048, 3) := by decide +kernel
theorem dX7_layVersions_11 : decode cX7_layVersions 11 = .ok (.if_icmp .ge 23, 3) := by decide +kernel
theorem dX7_layVersions_14 : decode cX7_layVersions 14 = .ok (.aload_n 0, 1) := by decide +kernel
theorem dX7_layVersions_15 : decode cX7_layVersions 15 = .ok (.getfield 63, 3) := by decide +kernel
theorem dX7_layVersions_18 : decode cX7_layVersions 18 = .ok (.iload_n 1, 1) := by decide +kernel
theorem dX7_layVersions_19 : decode cX7_layVersions 19 = .ok (.iconst 0, 1) := by decide +kernel
theorem dX7_layVersions_20 : decode cX7_layVersions 20 = .ok (.iastore, 1) := by decide +kernel
theorem dX7_layVersions_21 : decode cX7_layVersions 21 = .ok (.aload_n 0, 1) := by decide +kernel
theorem dX7_layVersions_22 : decode cX7_layVersions 22 = .ok (.getfield 66, 3) := by decide +kernel
theorem dX7_layVersions_25 : decode cX7_layVersions 25 = .ok (.iload_n 1, 1) := by decide +kernel
theorem dX7_layVersions_26 : decode cX7_layVersions 26 = .ok (.iconst 0, 1) := by decide +kernel
theorem dX7_layVersions_27 : decode cX7_layVersions 27 = .ok (.iastore, 1) := by decide +kernel
theorem dX7_layVersions_28 : decode cX7_layVersions 28 = .ok (.iinc 1 1, 3) := by decide +kernel
theorem dX7_layVersions_31 : decode cX7_layVersions 31 = .ok (.goto (-24), 3) := by decide +kernel
theorem dX7_layVersions_34 : decode cX7_layVersions 34 = .ok (.iconst 0, 1) := by decide +kernel
theorem dX7_layVersions_35 : decode cX7_layVersions 35 = .ok (.istore_n 1, 1) := by decide +kernel
theorem dX7_layVersions_36 : decode cX7_layVersions 36 = .ok (.iload_n 1, 1) := by decide +kernel
theorem dX7_layVersions_37 : decode cX7_layVersions 37 = .ok (.sipush 128, 3) := by decide +kernel
theorem dX7_layVersions_40 : decode cX7_layVersions 40 = .ok (.if_icmp .ge 184, 3) := by decide +kernel
theorem dX7_layVersions_43 : decode cX7_layVersions 43 = .ok (.aload_n 0, 1) := by decide +kernel
theorem dX7_layVersions_44 : decode cX7_layVersions 44 = .ok (.iload_n 1, 1) := by decide +kernel
theorem dX7_layVersions_45 : decode cX7_layVersions 45 = .ok (.invokevirtual 155, 3) := by decide +kernel
theorem dX7_layVersions_48 : decode cX7_layVersions 48 = .ok (.ifCond .eq 170, 3) := by decide +kernel
theorem dX7_layVersions_51 : decode cX7_layVersions 51 = .ok (.aload_n 0, 1) := by decide +kernel
theorem dX7_layVersions_52 : decode cX7_layVersions 52 = .ok (.getfield 7, 3) := by decide +kernel
theorem dX7_layVersions_55 : decode cX7_layVersions 55 = .ok (.iload_n 1, 1) := by decide +kernel
theorem dX7_layVersions_56 : decode cX7_layVersions 56 = .ok (.iaload, 1) := by decide +kernel
theorem dX7_layVersions_57 : decode cX7_layVersions 57 = .ok (.iconst 3, 1) := by decide +kernel
theorem dX7_layVersions_58 : decode cX7_layVersions 58 = .ok (.if_icmp .eq 160, 3) := by decide +kernel
theorem dX7_layVersions_61 : decode cX7_layVersions 61 = .ok (.aload_n 0, 1) := by decide +kernel
theorem dX7_layVersions_62 : decode cX7_layVersions 62 = .ok (.getfield 13, 3) := by decide +kernel
theorem dX7_layVersions_65 : decode cX7_layVersions 65 = .ok (.iload_n 1, 1) := by decide +kernel
theorem dX7_layVersions_66 : decode cX7_layVersions 66 = .ok (.iaload, 1) := by decide +kernel
theorem dX7_layVersions_67 : decode cX7_layVersions 67 = .ok (.istore_n 2, 1) := by decide +kernel
theorem dX7_layVersions_68 : decode cX7_layVersions 68 = .ok (.aload_n 0, 1) := by decide +kernel
theorem dX7_layVersions_69 : decode cX7_layVersions 69 = .ok (.getfield 7, 3) := by decide +kernel
theorem dX7_layVersions_72 : decode cX7_layVersions 72 = .ok (.iload_n 1, 1) := by decide +kernel
theorem dX7_layVersions_73 : decode cX7_layVersions 73 = .ok (.iaload, 1) := by decide +kernel
theorem dX7_layVersions_74 : decode cX7_layVersions 74 = .ok (.iconst 2, 1) := by decide +kernel
theorem dX7_layVersions_75 : decode cX7_layVersions 75 = .ok (.if_icmp .ne 12, 3) := by decide +kernel
theorem dX7_layVersions_78 : decode cX7_layVersions 78 = .ok (.aload_n 0, 1) := by decide +kernel
theorem dX7_layVersions_79 : decode cX7_layVersions 79 = .ok (.getfield 35, 3) := by decide +kernel
theorem dX7_layVersions_82 : decode cX7_layVersions 82 = .ok (.iload_n 1, 1) := by decide +kernel
theorem dX7_layVersions_83 : decode cX7_layVersions 83 = .ok (.iaload, 1) := by decide +kernel
theorem dX7_layVersions_84 : decode cX7_layVersions 84 = .ok (.goto 4, 3) := by decide +kernel
theorem dX7_layVersions_87 : decode cX7_layVersions 87 = .ok (.iconst 0, 1) := by decide +kernel
theorem dX7_layVersions_88 : decode cX7_layVersions 88 = .ok (.istore_n 3, 1) := by decide +kernel
theorem dX7_layVersions_89 : decode cX7_layVersions 89 = .ok (.aload_n 0, 1) := by decide +kernel
theorem dX7_layVersions_90 : decode cX7_layVersions 90 = .ok (.getfield 7, 3) := by decide +kernel
theorem dX7_layVersions_93 : decode cX7_layVersions 93 = .ok (.iload_n 1, 1) := by decide +kernel
theorem dX7_layVersions_94 : decode cX7_layVersions 94 = .ok (.iaload, 1) := by decide +kernel
theorem dX7_layVersions_95 : decode cX7_layVersions 95 = .ok (.iconst 1, 1) := by decide +kernel
theorem dX7_layVersions_96 : decode cX7_layVersions 96 = .ok (.if_icmp .ne 42, 3) := by decide +kernel
theorem dX7_layVersions_99 : decode cX7_layVersions 99 = .ok (.aload_n 0, 1) := by decide +kernel
theorem dX7_layVersions_100 : decode cX7_layVersions 100 = .ok (.getfield 63, 3) := by decide +kernel
theorem dX7_layVersions_103 : decode cX7_layVersions 103 = .ok (.iload_n 2, 1) := by decide +kernel
theorem dX7_layVersions_104 : decode cX7_layVersions 104 = .ok (.aload_n 0, 1) := by decide +kernel
theorem dX7_layVersions_105 : decode cX7_layVersions 105 = .ok (.getfield 16, 3) := by decide +kernel
theorem dX7_layVersions_108 : decode cX7_layVersions 108 = .ok (.iload_n 1, 1) := by decide +kernel
theorem dX7_layVersions_109 : decode cX7_layVersions 109 = .ok (.iaload, 1) := by decide +kernel
theorem dX7_layVersions_110 : decode cX7_layVersions 110 = .ok (.aload_n 0, 1) := by decide +kernel
theorem dX7_layVersions_111 : decode cX7_layVersions 111 = .ok (.getfield 63, 3) := by decide +kernel
theorem dX7_layVersions_114 : decode cX7_layVersions 114 = .ok (.iload_n 2, 1) := by decide +kernel
theorem dX7_layVersions_115 : decode cX7_layVersions 115 = .ok (.iaload, 1) := by decide +kernel
theorem dX7_layVersions_116 : decode cX7_layVersions 116 = .ok (.if_icmp .le 12, 3) := by decide +kernel
theorem dX7_layVersions_119 : decode cX7_layVersions 119 = .ok (.aload_n 0, 1) := by decide +kernel
theorem dX7_layVersions_120 : decode cX7_layVersions 120 = .ok (.getfield 16, 3) := by decide +kernel
theorem dX7_layVersions_123 : decode cX7_layVersions 123 = .ok (.iload_n 1, 1) := by decide +kernel
theorem dX7_layVersions_124 : decode cX7_layVersions 124 = .ok (.iaload, 1) := by decide +kernel
theorem dX7_layVersions_125 : decode cX7_layVersions 125 = .ok (.goto 9, 3) := by decide +kernel
theorem dX7_layVersions_128 : decode cX7_layVersions 128 = .ok (.aload_n 0, 1) := by decide +kernel
theorem dX7_layVersions_129 : decode cX7_layVersions 129 = .ok (.getfield 63, 3) := by decide +kernel
theorem dX7_layVersions_132 : decode cX7_layVersions 132 = .ok (.iload_n 2, 1) := by decide +kernel
theorem dX7_layVersions_133 : decode cX7_layVersions 133 = .ok (.iaload, 1) := by decide +kernel
theorem dX7_layVersions_134 : decode cX7_layVersions 134 = .ok (.iastore, 1) := by decide +kernel
theorem dX7_layVersions_135 : decode cX7_layVersions 135 = .ok (.goto 39, 3) := by decide +kernel
theorem dX7_layVersions_138 : decode cX7_layVersions 138 = .ok (.aload_n 0, 1) := by decide +kernel
theorem dX7_layVersions_139 : decode cX7_layVersions 139 = .ok (.getfield 66, 3) := by decide +kernel
theorem dX7_layVersions_142 : decode cX7_layVersions 142 = .ok (.iload_n 2, 1) := by decide +kernel
theorem dX7_layVersions_143 : decode cX7_layVersions 143 = .ok (.aload_n 0, 1) := by decide +kernel
theorem dX7_layVersions_144 : decode cX7_layVersions 144 = .ok (.getfield 16, 3) := by decide +kernel
theorem dX7_layVersions_147 : decode cX7_layVersions 147 = .ok (.iload_n 1, 1) := by decide +kernel
theorem dX7_layVersions_148 : decode cX7_layVersions 148 = .ok (.iaload, 1) := by decide +kernel
theorem dX7_layVersions_149 : decode cX7_layVersions 149 = .ok (.aload_n 0, 1) := by decide +kernel
theorem dX7_layVersions_150 : decode cX7_layVersions 150 = .ok (.getfield 66, 3) := by decide +kernel
theorem dX7_layVersions_153 : decode cX7_layVersions 153 = .ok (.iload_n 2, 1) := by decide +kernel
theorem dX7_layVersions_154 : decode cX7_layVersions 154 = .ok (.iaload, 1) := by decide +kernel
theorem dX7_layVersions_155 : decode cX7_layVersions 155 = .ok (.if_icmp .le 12, 3) := by decide +kernel
theorem dX7_layVersions_158 : decode cX7_layVersions 158 = .ok (.aload_n 0, 1) := by decide +kernel
theorem dX7_layVersions_159 : decode cX7_layVersions 159 = .ok (.getfield 16, 3) := by decide +kernel
theorem dX7_layVersions_162 : decode cX7_layVersions 162 = .ok (.iload_n 1, 1) := by decide +kernel
theorem dX7_layVersions_163 : decode cX7_layVersions 163 = .ok (.iaload, 1) := by decide +kernel
theorem dX7_layVersions_164 : decode cX7_layVersions 164 = .ok (.goto 9, 3) := by decide +kernel
theorem dX7_layVersions_167 : decode cX7_layVersions 167 = .ok (.aload_n 0, 1) := by decide +kernel
theorem dX7_layVersions_168 : decode cX7_layVersions 168 = .ok (.getfield 66, 3) := by decide +kernel
theorem dX7_layVersions_171 : decode cX7_layVersions 171 = .ok (.iload_n 2, 1) := by decide +kernel
theorem dX7_layVersions_172 : decode cX7_layVersions 172 = .ok (.iaload, 1) := by decide +kernel
theorem dX7_layVersions_173 : decode cX7_layVersions 173 = .ok (.iastore, 1) := by decide +kernel
theorem dX7_layVersions_174 : decode cX7_layVersions 174 = .ok (.aload_n 0, 1) := by decide +kernel
theorem dX7_layVersions_175 : decode cX7_layVersions 175 = .ok (.iload_n 2, 1) := by decide +kernel
theorem dX7_layVersions_176 : decode cX7_layVersions 176 = .ok (.aload_n 0, 1) := by decide +kernel
theorem dX7_layVersions_177 : decode cX7_layVersions 177 = .ok (.getfield 124, 3) := by decide +kernel
theorem dX7_layVersions_180 : decode cX7_layVersions 180 = .ok (.if_icmp .lt 9, 3) := by decide +kernel
theorem dX7_layVersions_183 : decode cX7_layVersions 183 = .ok (.iload_n 2, 1) := by decide +kernel
theorem dX7_layVersions_184 : decode cX7_layVersions 184 = .ok (.iconst 1, 1) := by decide +kernel
theorem dX7_layVersions_185 : decode cX7_layVersions 185 = .ok (.iadd, 1) := by decide +kernel
theorem dX7_layVersions_186 : decode cX7_layVersions 186 = .ok (.goto 7, 3) := by decide +kernel
theorem dX7_layVersions_189 : decode cX7_layVersions 189 = .ok (.aload_n 0, 1) := by decide +kernel
theorem dX7_layVersions_190 : decode cX7_layVersions 190 = .ok (.getfield 124, 3) := by decide +kernel
theorem dX7_layVersions_193 : decode cX7_layVersions 193 = .ok (.putfield 124, 3) := by decide +kernel
theorem dX7_layVersions_196 : decode cX7_layVersions 196 = .ok (.aload_n 0, 1) := by decide +kernel
theorem dX7_layVersions_197 : decode cX7_layVersions 197 = .ok (.iload_n 3, 1) := by decide +kernel
theorem dX7_layVersions_198 : decode cX7_layVersions 198 = .ok (.aload_n 0, 1) := by decide +kernel
theorem dX7_layVersions_199 : decode cX7_layVersions 199 = .ok (.getfield 124, 3) := by decide +kernel
theorem dX7_layVersions_202 : decode cX7_layVersions 202 = .ok (.if_icmp .lt 9, 3) := by decide +kernel
theorem dX7_layVersions_205 : decode cX7_layVersions 205 = .ok (.iload_n 3, 1) := by decide +kernel
theorem dX7_layVersions_206 : decode cX7_layVersions 206 = .ok (.iconst 1, 1) := by decide +kernel
theorem dX7_layVersions_207 : decode cX7_layVersions 207 = .ok (.iadd, 1) := by decide +kernel
theorem dX7_layVersions_208 : decode cX7_layVersions 208 = .ok (.goto 7, 3) := by decide +kernel
theorem dX7_layVersions_211 : decode cX7_layVersions 211 = .ok (.aload_n 0, 1) := by decide +kernel
theorem dX7_layVersions_212 : decode cX7_layVersions 212 = .ok (.getfield 124, 3) := by decide +kernel
theorem dX7_layVersions_215 : decode cX7_layVersions 215 = .ok (.putfield 124, 3) := by decide +kernel
theorem dX7_layVersions_218 : decode cX7_layVersions 218 = .ok (.iinc 1 1, 3) := by decide +kernel
theorem dX7_layVersions_221 : decode cX7_layVersions 221 = .ok (.goto (-185), 3) := by decide +kernel
theorem dX7_layVersions_224 : decode cX7_layVersions 224 = .ok (.return_, 1) := by decide +kernel
theorem dX7_readOf_0 : decode cX7_readOf 0 = .ok (.iload_n 2, 1) := by decide +kernel
theorem dX7_readOf_1 : decode cX7_readOf 1 = .ok (.ifCond .eq 40, 3) := by decide +kernel
theorem dX7_readOf_4 : decode cX7_readOf 4 = .ok (.aload_n 0, 1) := by decide +kernel
theorem dX7_readOf_5 : decode cX7_readOf 5 = .ok (.iload_n 1, 1) := by decide +kernel
theorem dX7_readOf_6 : decode cX7_readOf 6 = .ok (.invokevirtual 276, 3) := by decide +kernel
theorem dX7_readOf_9 : decode cX7_readOf 9 = .ok (.ifCond .eq 32, 3) := by decide +kernel
theorem dX7_readOf_12 : decode cX7_readOf 12 = .ok (.aload_n 0, 1) := by decide +kernel
theorem dX7_readOf_13 : decode cX7_readOf 13 = .ok (.iload_n 1, 1) := by decide +kernel
theorem dX7_readOf_14 : decode cX7_readOf 14 = .ok (.invokevirtual 279, 3) := by decide +kernel
theorem dX7_readOf_17 : decode cX7_readOf 17 = .ok (.ifCond .ne 24, 3) := by decide +kernel
theorem dX7_readOf_20 : decode cX7_readOf 20 = .ok (.iconst 1, 1) := by decide +kernel
theorem dX7_readOf_21 : decode cX7_readOf 21 = .ok (.aload_n 0, 1) := by decide +kernel
theorem dX7_readOf_22 : decode cX7_readOf 22 = .ok (.getfield 42, 3) := by decide +kernel
theorem dX7_readOf_25 : decode cX7_readOf 25 = .ok (.bipush 16, 2) := by decide +kernel
theorem dX7_readOf_27 : decode cX7_readOf 27 = .ok (.iload_n 1, 1) := by decide +kernel
theorem dX7_readOf_28 : decode cX7_readOf 28 = .ok (.imul, 1) := by decide +kernel
theorem dX7_readOf_29 : decode cX7_readOf 29 = .ok (.aload_n 0, 1) := by decide +kernel
theorem dX7_readOf_30 : decode cX7_readOf 30 = .ok (.getfield 48, 3) := by decide +kernel
theorem dX7_readOf_33 : decode cX7_readOf 33 = .ok (.iload_n 1, 1) := by decide +kernel
theorem dX7_readOf_34 : decode cX7_readOf 34 = .ok (.iaload, 1) := by decide +kernel
theorem dX7_readOf_35 : decode cX7_readOf 35 = .ok (.iadd, 1) := by decide +kernel
theorem dX7_readOf_36 : decode cX7_readOf 36 = .ok (.iconst 1, 1) := by decide +kernel
theorem dX7_readOf_37 : decode cX7_readOf 37 = .ok (.isub, 1) := by decide +kernel
theorem dX7_readOf_38 : decode cX7_readOf 38 = .ok (.iaload, 1) := by decide +kernel
theorem dX7_readOf_39 : decode cX7_readOf 39 = .ok (.iadd, 1) := by decide +kernel
theorem dX7_readOf_40 : decode cX7_readOf 40 = .ok (.ireturn, 1) := by decide +kernel
theorem dX7_readOf_41 : decode cX7_readOf 41 = .ok (.aload_n 0, 1) := by decide +kernel
theorem dX7_readOf_42 : decode cX7_readOf 42 = .ok (.getfield 51, 3) := by decide +kernel
theorem dX7_readOf_45 : decode cX7_readOf 45 = .ok (.iload_n 1, 1) := by decide +kernel
theorem dX7_readOf_46 : decode cX7_readOf 46 = .ok (.iaload, 1) := by decide +kernel
theorem dX7_readOf_47 : decode cX7_readOf 47 = .ok (.ireturn, 1) := by decide +kernel
theorem dX7_mount_0 : decode cX7_mount 0 = .ok (.aload_n 0, 1) := by decide +kernel
theorem dX7_mount_1 : decode cX7_mount 1 = .ok (.iconst 0, 1) := by decide +kernel
theorem dX7_mount_2 : decode cX7_mount 2 = .ok (.putfield 127, 3) := by decide +kernel
theorem dX7_mount_5 : decode cX7_mount 5 = .ok (.iconst 0, 1) := by decide +kernel
theorem dX7_mount_6 : decode cX7_mount 6 = .ok (.istore_n 2, 1) := by decide +kernel
theorem dX7_mount_7 : decode cX7_mount 7 = .ok (.aload_n 0, 1) := by decide +kernel
theorem dX7_mount_8 : decode cX7_mount 8 = .ok (.iconst 0, 1) := by decide +kernel
theorem dX7_mount_9 : decode cX7_mount 9 = .ok (.putfield 174, 3) := by decide +kernel
theorem dX7_mount_12 : decode cX7_mount 12 = .ok (.aload_n 0, 1) := by decide +kernel
theorem dX7_mount_13 : decode cX7_mount 13 = .ok (.iconst 0, 1) := by decide +kernel
theorem dX7_mount_14 : decode cX7_mount 14 = .ok (.putfield 158, 3) := by decide +kernel
theorem dX7_mount_17 : decode cX7_mount 17 = .ok (.aload_n 0, 1) := by decide +kernel
theorem dX7_mount_18 : decode cX7_mount 18 = .ok (.iconst 0, 1) := by decide +kernel
theorem dX7_mount_19 : decode cX7_mount 19 = .ok (.putfield 114, 3) := by decide +kernel
theorem dX7_mount_22 : decode cX7_mount 22 = .ok (.aload_n 0, 1) := by decide +kernel
theorem dX7_mount_23 : decode cX7_mount 23 = .ok (.iconst 0, 1) := by decide +kernel
theorem dX7_mount_24 : decode cX7_mount 24 = .ok (.putfield 192, 3) := by decide +kernel
theorem dX7_mount_27 : decode cX7_mount 27 = .ok (.aload_n 0, 1) := by decide +kernel
theorem dX7_mount_28 : decode cX7_mount 28 = .ok (.iconst (-1), 1) := by decide +kernel
theorem dX7_mount_29 : decode cX7_mount 29 = .ok (.putfield 118, 3) := by decide +kernel
theorem dX7_mount_32 : decode cX7_mount 32 = .ok (.iconst 0, 1) := by decide +kernel
theorem dX7_mount_33 : decode cX7_mount 33 = .ok (.istore_n 3, 1) := by decide +kernel
theorem dX7_mount_34 : decode cX7_mount 34 = .ok (.iload_n 3, 1) := by decide +kernel
theorem dX7_mount_35 : decode cX7_mount 35 = .ok (.bipush 8, 2) := by decide +kernel
theorem dX7_mount_37 : decode cX7_mount 37 = .ok (.if_icmp .ge 112, 3) := by decide +kernel
theorem dX7_mount_40 : decode cX7_mount 40 = .ok (.iload_n 2, 1) := by decide +kernel
theorem dX7_mount_41 : decode cX7_mount 41 = .ok (.aload_n 0, 1) := by decide +kernel
theorem dX7_mount_42 : decode cX7_mount 42 = .ok (.iload_n 3, 1) := by decide +kernel
theorem dX7_mount_43 : decode cX7_mount 43 = .ok (.iload_n 1, 1) := by decide +kernel
theorem dX7_mount_44 : decode cX7_mount 44 = .ok (.invokevirtual 282, 3) := by decide +kernel
theorem dX7_mount_47 : decode cX7_mount 47 = .ok (.iadd, 1) := by decide +kernel
theorem dX7_mount_48 : decode cX7_mount 48 = .ok (.istore_n 2, 1) := by decide +kernel
theorem dX7_mount_49 : decode cX7_mount 49 = .ok (.aload_n 0, 1) := by decide +kernel
theorem dX7_mount_50 : decode cX7_mount 50 = .ok (.getfield 48, 3) := by decide +kernel
theorem dX7_mount_53 : decode cX7_mount 53 = .ok (.iload_n 3, 1) := by decide +kernel
theorem dX7_mount_54 : decode cX7_mount 54 = .ok (.iaload, 1) := by decide +kernel
theorem dX7_mount_55 : decode cX7_mount 55 = .ok (.ifCond .le 42, 3) := by decide +kernel
theorem dX7_mount_58 : decode cX7_mount 58 = .ok (.aload_n 0, 1) := by decide +kernel
theorem dX7_mount_59 : decode cX7_mount 59 = .ok (.iload_n 3, 1) := by decide +kernel
theorem dX7_mount_60 : decode cX7_mount 60 = .ok (.invokevirtual 276, 3) := by decide +kernel
theorem dX7_mount_63 : decode cX7_mount 63 = .ok (.ifCond .ne 34, 3) := by decide +kernel
theorem dX7_mount_66 : decode cX7_mount 66 = .ok (.aload_n 0, 1) := by decide +kernel
theorem dX7_mount_67 : decode cX7_mount 67 = .ok (.iload_n 3, 1) := by decide +kernel
theorem dX7_mount_68 : decode cX7_mount 68 = .ok (.invokevirtual 279, 3) := by decide +kernel
theorem dX7_mount_71 : decode cX7_mount 71 = .ok (.ifCond .ne 26, 3) := by decide +kernel
theorem dX7_mount_74 : decode cX7_mount 74 = .ok (.aload_n 0, 1) := by decide +kernel
theorem dX7_mount_75 : decode cX7_mount 75 = .ok (.getfield 51, 3) := by decide +kernel
theorem dX7_mount_78 : decode cX7_mount 78 = .ok (.iload_n 3, 1) := by decide +kernel
theorem dX7_mount_79 : decode cX7_mount 79 = .ok (.iaload, 1) := by decide +kernel
theorem dX7_mount_80 : decode cX7_mount 80 = .ok (.aload_n 0, 1) := by decide +kernel
theorem dX7_mount_81 : decode cX7_mount 81 = .ok (.getfield 48, 3) := by decide +kernel
theorem dX7_mount_84 : decode cX7_mount 84 = .ok (.iload_n 3, 1) := by decide +kernel
theorem dX7_mount_85 : decode cX7_mount 85 = .ok (.iaload, 1) := by decide +kernel
theorem dX7_mount_86 : decode cX7_mount 86 = .ok (.iconst 2, 1) := by decide +kernel
theorem dX7_mount_87 : decode cX7_mount 87 = .ok (.invokestatic 181, 3) := by decide +kernel
theorem dX7_mount_90 : decode cX7_mount 90 = .ok (.ifCond .eq 7, 3) := by decide +kernel
theorem dX7_mount_93 : decode cX7_mount 93 = .ok (.iconst 1, 1) := by decide +kernel
theorem dX7_mount_94 : decode cX7_mount 94 = .ok (.goto 4, 3) := by decide +kernel
theorem dX7_mount_97 : decode cX7_mount 97 = .ok (.iconst 0, 1) := by decide +kernel
theorem dX7_mount_98 : decode cX7_mount 98 = .ok (.istore 4, 2) := by decide +kernel
theorem dX7_mount_100 : decode cX7_mount 100 = .ok (.aload_n 0, 1) := by decide +kernel
theorem dX7_mount_101 : decode cX7_mount 101 = .ok (.iload 4, 2) := by decide +kernel
theorem dX7_mount_103 : decode cX7_mount 103 = .ok (.ifCond .eq 33, 3) := by decide +kernel
theorem dX7_mount_106 : decode cX7_mount 106 = .ok (.aload_n 0, 1) := by decide +kernel
theorem dX7_mount_107 : decode cX7_mount 107 = .ok (.getfield 118, 3) := by decide +kernel
theorem dX7_mount_110 : decode cX7_mount 110 = .ok (.iconst (-1), 1) := by decide +kernel
theorem dX7_mount_111 : decode cX7_mount 111 = .ok (.if_icmp .eq 21, 3) := by decide +kernel
theorem dX7_mount_114 : decode cX7_mount 114 = .ok (.aload_n 0, 1) := by decide +kernel
theorem dX7_mount_115 : decode cX7_mount 115 = .ok (.getfield 51, 3) := by decide +kernel
theorem dX7_mount_118 : decode cX7_mount 118 = .ok (.iload_n 3, 1) := by decide +kernel
theorem dX7_mount_119 : decode cX7_mount 119 = .ok (.iaload, 1) := by decide +kernel
theorem dX7_mount_120 : decode cX7_mount 120 = .ok (.aload_n 0, 1) := by decide +kernel
theorem dX7_mount_121 : decode cX7_mount 121 = .ok (.getfield 51, 3) := by decide +kernel
theorem dX7_mount_124 : decode cX7_mount 124 = .ok (.aload_n 0, 1) := by decide +kernel
theorem dX7_mount_125 : decode cX7_mount 125 = .ok (.getfield 118, 3) := by decide +kernel
theorem dX7_mount_128 : decode cX7_mount 128 = .ok (.iaload, 1) := by decide +kernel
theorem dX7_mount_129 : decode cX7_mount 129 = .ok (.if_icmp .ge 7, 3) := by decide +kernel
theorem dX7_mount_132 : decode cX7_mount 132 = .ok (.iload_n 3, 1) := by decide +kernel
theorem dX7_mount_133 : decode cX7_mount 133 = .ok (.goto 7, 3) := by decide +kernel
theorem dX7_mount_136 : decode cX7_mount 136 = .ok (.aload_n 0, 1) := by decide +kernel
theorem dX7_mount_137 : decode cX7_mount 137 = .ok (.getfield 118, 3) := by decide +kernel
theorem dX7_mount_140 : decode cX7_mount 140 = .ok (.putfield 118, 3) := by decide +kernel
theorem dX7_mount_143 : decode cX7_mount 143 = .ok (.iinc 3 1, 3) := by decide +kernel
theorem dX7_mount_146 : decode cX7_mount 146 = .ok (.goto (-112), 3) := by decide +kernel
theorem dX7_mount_149 : decode cX7_mount 149 = .ok (.iconst 0, 1) := by decide +kernel
theorem dX7_mount_150 : decode cX7_mount 150 = .ok (.istore_n 3, 1) := by decide +kernel
theorem dX7_mount_151 : decode cX7_mount 151 = .ok (.iload_n 3, 1) := by decide +kernel
theorem dX7_mount_152 : decode cX7_mount 152 = .ok (.bipush 8, 2) := by decide +kernel
theorem dX7_mount_154 : decode cX7_mount 154 = .ok (.if_icmp .ge 79, 3) := by decide +kernel
theorem dX7_mount_157 : decode cX7_mount 157 = .ok (.aload_n 0, 1) := by decide +kernel
theorem dX7_mount_158 : decode cX7_mount 158 = .ok (.getfield 51, 3) := by decide +kernel
theorem dX7_mount_161 : decode cX7_mount 161 = .ok (.iload_n 3, 1) := by decide +kernel
theorem dX7_mount_162 : decode cX7_mount 162 = .ok (.iaload, 1) := by decide +kernel
theorem dX7_mount_163 : decode cX7_mount 163 = .ok (.iconst 1, 1) := by decide +kernel
theorem dX7_mount_164 : decode cX7_mount 164 = .ok (.if_icmp .ne 26, 3) := by decide +kernel
theorem dX7_mount_167 : decode cX7_mount 167 = .ok (.aload_n 0, 1) := by decide +kernel
theorem dX7_mount_168 : decode cX7_mount 168 = .ok (.getfield 57, 3) := by decide +kernel
theorem dX7_mount_171 : decode cX7_mount 171 = .ok (.aload_n 0, 1) := by decide +kernel
theorem dX7_mount_172 : decode cX7_mount 172 = .ok (.getfield 114, 3) := by decide +kernel
theorem dX7_mount_175 : decode cX7_mount 175 = .ok (.iload_n 3, 1) := by decide +kernel
theorem dX7_mount_176 : decode cX7_mount 176 = .ok (.iastore, 1) := by decide +kernel
theorem dX7_mount_177 : decode cX7_mount 177 = .ok (.aload_n 0, 1) := by decide +kernel
theorem dX7_mount_178 : decode cX7_mount 178 = .ok (.dup, 1) := by decide +kernel
theorem dX7_mount_179 : decode cX7_mount 179 = .ok (.getfield 114, 3) := by decide +kernel
theorem dX7_mount_182 : decode cX7_mount 182 = .ok (.iconst 1, 1) := by decide +kernel
theorem dX7_mount_183 : decode cX7_mount 183 = .ok (.iadd, 1) := by decide +kernel
theorem dX7_mount_184 : decode cX7_mount 184 = .ok (.putfield 114, 3) := by decide +kernel
theorem dX7_mount_187 : decode cX7_mount 187 = .ok (.goto 40, 3) := by decide +kernel
theorem dX7_mount_190 : decode cX7_mount 190 = .ok (.aload_n 0, 1) := by decide +kernel
theorem dX7_mount_191 : decode cX7_mount 191 = .ok (.getfield 48, 3) := by decide +kernel
theorem dX7_mount_194 : decode cX7_mount 194 = .ok (.iload_n 3, 1) := by decide +kernel
theorem dX7_mount_195 : decode cX7_mount 195 = .ok (.iaload, 1) := by decide +kernel
theorem dX7_mount_196 : decode cX7_mount 196 = .ok (.ifCond .le 31, 3) := by decide +kernel
theorem dX7_mount_199 : decode cX7_mount 199 = .ok (.iload_n 3, 1) := by decide +kernel
theorem dX7_mount_200 : decode cX7_mount 200 = .ok (.aload_n 0, 1) := by decide +kernel
theorem dX7_mount_201 : decode cX7_mount 201 = .ok (.getfield 118, 3) := by decide +kernel
theorem dX7_mount_204 : decode cX7_mount 204 = .ok (.if_icmp .eq 23, 3) := by decide +kernel
theorem dX7_mount_207 : decode cX7_mount 207 = .ok (.aload_n 0, 1) := by decide +kernel
theorem dX7_mount_208 : decode cX7_mount 208 = .ok (.getfield 60, 3) := by decide +kernel
theorem dX7_mount_211 : decode cX7_mount 211 = .ok (.aload_n 0, 1) := by decide +kernel
theorem dX7_mount_212 : decode cX7_mount 212 = .ok (.getfield 192, 3) := by decide +kernel
theorem dX7_mount_215 : decode cX7_mount 215 = .ok (.iload_n 3, 1) := by decide +kernel
theorem dX7_mount_216 : decode cX7_mount 216 = .ok (.iastore, 1) := by decide +kernel
theorem dX7_mount_217 : decode cX7_mount 217 = .ok (.aload_n 0, 1) := by decide +kernel
theorem dX7_mount_218 : decode cX7_mount 218 = .ok (.dup, 1) := by decide +kernel
theorem dX7_mount_219 : decode cX7_mount 219 = .ok (.getfield 192, 3) := by decide +kernel
theorem dX7_mount_222 : decode cX7_mount 222 = .ok (.iconst 1, 1) := by decide +kernel
theorem dX7_mount_223 : decode cX7_mount 223 = .ok (.iadd, 1) := by decide +kernel
theorem dX7_mount_224 : decode cX7_mount 224 = .ok (.putfield 192, 3) := by decide +kernel
theorem dX7_mount_227 : decode cX7_mount 227 = .ok (.iinc 3 1, 3) := by decide +kernel
theorem dX7_mount_230 : decode cX7_mount 230 = .ok (.goto (-79), 3) := by decide +kernel
theorem dX7_mount_233 : decode cX7_mount 233 = .ok (.aload_n 0, 1) := by decide +kernel
theorem dX7_mount_234 : decode cX7_mount 234 = .ok (.invokevirtual 286, 3) := by decide +kernel
theorem dX7_mount_237 : decode cX7_mount 237 = .ok (.iconst 0, 1) := by decide +kernel
theorem dX7_mount_238 : decode cX7_mount 238 = .ok (.istore_n 3, 1) := by decide +kernel
theorem dX7_mount_239 : decode cX7_mount 239 = .ok (.iload_n 3, 1) := by decide +kernel
theorem dX7_mount_240 : decode cX7_mount 240 = .ok (.bipush 8, 2) := by decide +kernel
theorem dX7_mount_242 : decode cX7_mount 242 = .ok (.if_icmp .ge 29, 3) := by decide +kernel
theorem dX7_mount_245 : decode cX7_mount 245 = .ok (.aload_n 0, 1) := by decide +kernel
theorem dX7_mount_246 : decode cX7_mount 246 = .ok (.getfield 51, 3) := by decide +kernel
theorem dX7_mount_249 : decode cX7_mount 249 = .ok (.iload_n 3, 1) := by decide +kernel
theorem dX7_mount_250 : decode cX7_mount 250 = .ok (.iaload, 1) := by decide +kernel
theorem dX7_mount_251 : decode cX7_mount 251 = .ok (.ifCond .ne 14, 3) := by decide +kernel
theorem dX7_mount_254 : decode cX7_mount 254 = .ok (.aload_n 0, 1) := by decide +kernel
theorem dX7_mount_255 : decode cX7_mount 255 = .ok (.iload_n 3, 1) := by decide +kernel
theorem dX7_mount_256 : decode cX7_mount 256 = .ok (.invokevirtual 273, 3) := by decide +kernel
theorem dX7_mount_259 : decode cX7_mount 259 = .ok (.ifCond .ne 6, 3) := by decide +kernel
theorem dX7_mount_262 : decode cX7_mount 262 = .ok (.bipush (-9), 2) := by decide +kernel
theorem dX7_mount_264 : decode cX7_mount 264 = .ok (.ireturn, 1) := by decide +kernel
theorem dX7_mount_265 : decode cX7_mount 265 = .ok (.iinc 3 1, 3) := by decide +kernel
theorem dX7_mount_268 : decode cX7_mount 268 = .ok (.goto (-29), 3) := by decide +kernel
theorem dX7_mount_271 : decode cX7_mount 271 = .ok (.iload_n 2, 1) := by decide +kernel
theorem dX7_mount_272 : decode cX7_mount 272 = .ok (.ireturn, 1) := by decide +kernel
theorem dX7_isDark_0 : decode cX7_isDark 0 = .ok (.aload_n 0, 1) := by decide +kernel
theorem dX7_isDark_1 : decode cX7_isDark 1 = .ok (.iconst 0, 1) := by decide +kernel
theorem dX7_isDark_2 : decode cX7_isDark 2 = .ok (.putfield 127, 3) := by decide +kernel
theorem dX7_isDark_5 : decode cX7_isDark 5 = .ok (.aload_n 0, 1) := by decide +kernel
theorem dX7_isDark_6 : decode cX7_isDark 6 = .ok (.getfield 174, 3) := by decide +kernel
theorem dX7_isDark_9 : decode cX7_isDark 9 = .ok (.ireturn, 1) := by decide +kernel
theorem dX7_lookUp_0 : decode cX7_lookUp 0 = .ok (.aload_n 0, 1) := by decide +kernel
theorem dX7_lookUp_1 : decode cX7_lookUp 1 = .ok (.iload_n 1, 1) := by decide +kernel
theorem dX7_lookUp_2 : decode cX7_lookUp 2 = .ok (.iload_n 2, 1) := by decide +kernel
theorem dX7_lookUp_3 : decode cX7_lookUp 3 = .ok (.invokevirtual 219, 3) := by decide +kernel
theorem dX7_lookUp_6 : decode cX7_lookUp 6 = .ok (.ifCond .eq 12, 3) := by decide +kernel
theorem dX7_lookUp_9 : decode cX7_lookUp 9 = .ok (.aload_n 0, 1) := by decide +kernel
theorem dX7_lookUp_10 : decode cX7_lookUp 10 = .ok (.iload_n 1, 1) := by decide +kernel
theorem dX7_lookUp_11 : decode cX7_lookUp 11 = .ok (.iload_n 2, 1) := by decide +kernel
theorem dX7_lookUp_12 : decode cX7_lookUp 12 = .ok (.invokevirtual 289, 3) := by decide +kernel
theorem dX7_lookUp_15 : decode cX7_lookUp 15 = .ok (.goto 4, 3) := by decide +kernel
theorem dX7_lookUp_18 : decode cX7_lookUp 18 = .ok (.iconst 0, 1) := by decide +kernel
theorem dX7_lookUp_19 : decode cX7_lookUp 19 = .ok (.ireturn, 1) := by decide +kernel
theorem dX7_hasIt_0 : decode cX7_hasIt 0 = .ok (.aload_n 0, 1) := by decide +kernel
theorem dX7_hasIt_1 : decode cX7_hasIt 1 = .ok (.aload_n 0, 1) := by decide +kernel
theorem dX7_hasIt_2 : decode cX7_hasIt 2 = .ok (.getfield 174, 3) := by decide +kernel
theorem dX7_hasIt_5 : decode cX7_hasIt 5 = .ok (.ifCond .eq 7, 3) := by decide +kernel
theorem dX7_hasIt_8 : decode cX7_hasIt 8 = .ok (.iconst 2, 1) := by decide +kernel
theorem dX7_hasIt_9 : decode cX7_hasIt 9 = .ok (.goto 16, 3) := by decide +kernel
theorem dX7_hasIt_12 : decode cX7_hasIt 12 = .ok (.aload_n 0, 1) := by decide +kernel
theorem dX7_hasIt_13 : decode cX7_hasIt 13 = .ok (.iload_n 1, 1) := by decide +kernel
theorem dX7_hasIt_14 : decode cX7_hasIt 14 = .ok (.invokevirtual 213, 3) := by decide +kernel
theorem dX7_hasIt_17 : decode cX7_hasIt 17 = .ok (.ifCond .ne 7, 3) := by decide +kernel
theorem dX7_hasIt_20 : decode cX7_hasIt 20 = .ok (.iconst 1, 1) := by decide +kernel
theorem dX7_hasIt_21 : decode cX7_hasIt 21 = .ok (.goto 4, 3) := by decide +kernel
theorem dX7_hasIt_24 : decode cX7_hasIt 24 = .ok (.iconst 0, 1) := by decide +kernel
theorem dX7_hasIt_25 : decode cX7_hasIt 25 = .ok (.putfield 127, 3) := by decide +kernel
theorem dX7_hasIt_28 : decode cX7_hasIt 28 = .ok (.aload_n 0, 1) := by decide +kernel
theorem dX7_hasIt_29 : decode cX7_hasIt 29 = .ok (.getfield 127, 3) := by decide +kernel
theorem dX7_hasIt_32 : decode cX7_hasIt 32 = .ok (.ifCond .ne 7, 3) := by decide +kernel
theorem dX7_hasIt_35 : decode cX7_hasIt 35 = .ok (.iconst 1, 1) := by decide +kernel
theorem dX7_hasIt_36 : decode cX7_hasIt 36 = .ok (.goto 4, 3) := by decide +kernel
theorem dX7_hasIt_39 : decode cX7_hasIt 39 = .ok (.iconst 0, 1) := by decide +kernel
theorem dX7_hasIt_40 : decode cX7_hasIt 40 = .ok (.ireturn, 1) := by decide +kernel
theorem dX7_names_0 : decode cX7_names 0 = .ok (.aload_n 0, 1) := by decide +kernel
theorem dX7_names_1 : decode cX7_names 1 = .ok (.iload_n 1, 1) := by decide +kernel
theorem dX7_names_2 : decode cX7_names 2 = .ok (.invokevirtual 292, 3) := by decide +kernel
theorem dX7_names_5 : decode cX7_names 5 = .ok (.ifCond .eq 11, 3) := by decide +kernel
theorem dX7_names_8 : decode cX7_names 8 = .ok (.aload_n 0, 1) := by decide +kernel
theorem dX7_names_9 : decode cX7_names 9 = .ok (.iload_n 1, 1) := by decide +kernel
theorem dX7_names_10 : decode cX7_names 10 = .ok (.invokevirtual 240, 3) := by decide +kernel
theorem dX7_names_13 : decode cX7_names 13 = .ok (.goto 4, 3) := by decide +kernel
theorem dX7_names_16 : decode cX7_names 16 = .ok (.iconst 0, 1) := by decide +kernel
theorem dX7_names_17 : decode cX7_names 17 = .ok (.ireturn, 1) := by decide +kernel
theorem dX7_nameAt_0 : decode cX7_nameAt 0 = .ok (.aload_n 0, 1) := by decide +kernel
theorem dX7_nameAt_1 : decode cX7_nameAt 1 = .ok (.iload_n 1, 1) := by decide +kernel
theorem dX7_nameAt_2 : decode cX7_nameAt 2 = .ok (.invokevirtual 292, 3) := by decide +kernel
theorem dX7_nameAt_5 : decode cX7_nameAt 5 = .ok (.ifCond .eq 27, 3) := by decide +kernel
theorem dX7_nameAt_8 : decode cX7_nameAt 8 = .ok (.aload_n 0, 1) := by decide +kernel
theorem dX7_nameAt_9 : decode cX7_nameAt 9 = .ok (.iload_n 2, 1) := by decide +kernel
theorem dX7_nameAt_10 : decode cX7_nameAt 10 = .ok (.iconst 0, 1) := by decide +kernel
theorem dX7_nameAt_11 : decode cX7_nameAt 11 = .ok (.aload_n 0, 1) := by decide +kernel
theorem dX7_nameAt_12 : decode cX7_nameAt 12 = .ok (.iload_n 1, 1) := by decide +kernel
theorem dX7_nameAt_13 : decode cX7_nameAt 13 = .ok (.invokevirtual 240, 3) := by decide +kernel
theorem dX7_nameAt_16 : decode cX7_nameAt 16 = .ok (.iconst 1, 1) := by decide +kernel
theorem dX7_nameAt_17 : decode cX7_nameAt 17 = .ok (.isub, 1) := by decide +kernel
theorem dX7_nameAt_18 : decode cX7_nameAt 18 = .ok (.invokestatic 210, 3) := by decide +kernel
theorem dX7_nameAt_21 : decode cX7_nameAt 21 = .ok (.ifCond .eq 7, 3) := by decide +kernel
theorem dX7_nameAt_24 : decode cX7_nameAt 24 = .ok (.iconst 0, 1) := by decide +kernel
theorem dX7_nameAt_25 : decode cX7_nameAt 25 = .ok (.goto 4, 3) := by decide +kernel
theorem dX7_nameAt_28 : decode cX7_nameAt 28 = .ok (.iconst 1, 1) := by decide +kernel
theorem dX7_nameAt_29 : decode cX7_nameAt 29 = .ok (.putfield 127, 3) := by decide +kernel
theorem dX7_nameAt_32 : decode cX7_nameAt 32 = .ok (.iconst 0, 1) := by decide +kernel
theorem dX7_nameAt_33 : decode cX7_nameAt 33 = .ok (.istore_n 3, 1) := by decide +kernel
theorem dX7_nameAt_34 : decode cX7_nameAt 34 = .ok (.iconst 0, 1) := by decide +kernel
theorem dX7_nameAt_35 : decode cX7_nameAt 35 = .ok (.istore 4, 2) := by decide +kernel
theorem dX7_nameAt_37 : decode cX7_nameAt 37 = .ok (.iload 4, 2) := by decide +kernel
theorem dX7_nameAt_39 : decode cX7_nameAt 39 = .ok (.aload_n 0, 1) := by decide +kernel
theorem dX7_nameAt_40 : decode cX7_nameAt 40 = .ok (.getfield 81, 3) := by decide +kernel
theorem dX7_nameAt_43 : decode cX7_nameAt 43 = .ok (.iconst 0, 1) := by decide +kernel
theorem dX7_nameAt_44 : decode cX7_nameAt 44 = .ok (.iaload, 1) := by decide +kernel
theorem dX7_nameAt_45 : decode cX7_nameAt 45 = .ok (.if_icmp .ge 49, 3) := by decide +kernel
theorem dX7_nameAt_48 : decode cX7_nameAt 48 = .ok (.aload_n 0, 1) := by decide +kernel
theorem dX7_nameAt_49 : decode cX7_nameAt 49 = .ok (.getfield 127, 3) := by decide +kernel
theorem dX7_nameAt_52 : decode cX7_nameAt 52 = .ok (.ifCond .ne 42, 3) := by decide +kernel
theorem dX7_nameAt_55 : decode cX7_nameAt 55 = .ok (.aload_n 0, 1) := by decide +kernel
theorem dX7_nameAt_56 : decode cX7_nameAt 56 = .ok (.getfield 75, 3) := by decide +kernel
theorem dX7_nameAt_59 : decode cX7_nameAt 59 = .ok (.iload 4, 2) := by decide +kernel
theorem dX7_nameAt_61 : decode cX7_nameAt 61 = .ok (.iaload, 1) := by decide +kernel
theorem dX7_nameAt_62 : decode cX7_nameAt 62 = .ok (.bipush 100, 2) := by decide +kernel
theorem dX7_nameAt_64 : decode cX7_nameAt 64 = .ok (.idiv, 1) := by decide +kernel
theorem dX7_nameAt_65 : decode cX7_nameAt 65 = .ok (.iload_n 1, 1) := by decide +kernel
theorem dX7_nameAt_66 : decode cX7_nameAt 66 = .ok (.if_icmp .ne 22, 3) := by decide +kernel
theorem dX7_nameAt_69 : decode cX7_nameAt 69 = .ok (.iload_n 3, 1) := by decide +kernel
theorem dX7_nameAt_70 : decode cX7_nameAt 70 = .ok (.iload_n 2, 1) := by decide +kernel
theorem dX7_nameAt_71 : decode cX7_nameAt 71 = .ok (.if_icmp .ne 14, 3) := by decide +kernel
theorem dX7_nameAt_74 : decode cX7_nameAt 74 = .ok (.aload_n 0, 1) := by decide +kernel
theorem dX7_nameAt_75 : decode cX7_nameAt 75 = .ok (.getfield 75, 3) := by decide +kernel
theorem dX7_nameAt_78 : decode cX7_nameAt 78 = .ok (.iload 4, 2) := by decide +kernel
theorem dX7_nameAt_80 : decode cX7_nameAt 80 = .ok (.iaload, 1) := by decide +kernel
theorem dX7_nameAt_81 : decode cX7_nameAt 81 = .ok (.bipush 100, 2) := by decide +kernel
theorem dX7_nameAt_83 : decode cX7_nameAt 83 = .ok (.irem, 1) := by decide +kernel
theorem dX7_nameAt_84 : decode cX7_nameAt 84 = .ok (.ireturn, 1) := by decide +kernel
theorem dX7_nameAt_85 : decode cX7_nameAt 85 = .ok (.iinc 3 1, 3) := by decide +kernel
theorem dX7_nameAt_88 : decode cX7_nameAt 88 = .ok (.iinc 4 1, 3) := by decide +kernel
theorem dX7_nameAt_91 : decode cX7_nameAt 91 = .ok (.goto (-54), 3) := by decide +kernel
theorem dX7_nameAt_94 : decode cX7_nameAt 94 = .ok (.iconst 0, 1) := by decide +kernel
theorem dX7_nameAt_95 : decode cX7_nameAt 95 = .ok (.ireturn, 1) := by decide +kernel
theorem dX7_hasNumber_0 : decode cX7_hasNumber 0 = .ok (.aload_n 0, 1) := by decide +kernel
theorem dX7_hasNumber_1 : decode cX7_hasNumber 1 = .ok (.aload_n 0, 1) := by decide +kernel
theorem dX7_hasNumber_2 : decode cX7_hasNumber 2 = .ok (.getfield 174, 3) := by decide +kernel
theorem dX7_hasNumber_5 : decode cX7_hasNumber 5 = .ok (.ifCond .eq 7, 3) := by decide +kernel
theorem dX7_hasNumber_8 : decode cX7_hasNumber 8 = .ok (.iconst 2, 1) := by decide +kernel
theorem dX7_hasNumber_9 : decode cX7_hasNumber 9 = .ok (.goto 25, 3) := by decide +kernel
theorem dX7_hasNumber_12 : decode cX7_hasNumber 12 = .ok (.aload_n 0, 1) := by decide +kernel
theorem dX7_hasNumber_13 : decode cX7_hasNumber 13 = .ok (.iload_n 1, 1) := by decide +kernel
theorem dX7_hasNumber_14 : decode cX7_hasNumber 14 = .ok (.invokevirtual 213, 3) := by decide +kernel
theorem dX7_hasNumber_17 : decode cX7_hasNumber 17 = .ok (.ifCond .ne 16, 3) := by decide +kernel
theorem dX7_hasNumber_20 : decode cX7_hasNumber 20 = .ok (.aload_n 0, 1) := by decide +kernel
theorem dX7_hasNumber_21 : decode cX7_hasNumber 21 = .ok (.iload_n 1, 1) := by decide +kernel
theorem dX7_hasNumber_22 : decode cX7_hasNumber 22 = .ok (.invokevirtual 233, 3) := by decide +kernel
theorem dX7_hasNumber_25 : decode cX7_hasNumber 25 = .ok (.iconst (-1), 1) := by decide +kernel
theorem dX7_hasNumber_26 : decode cX7_hasNumber 26 = .ok (.if_icmp .ne 7, 3) := by decide +kernel
theorem dX7_hasNumber_29 : decode cX7_hasNumber 29 = .ok (.iconst 1, 1) := by decide +kernel
theorem dX7_hasNumber_30 : decode cX7_hasNumber 30 = .ok (.goto 4, 3) := by decide +kernel
theorem dX7_hasNumber_33 : decode cX7_hasNumber 33 = .ok (.iconst 0, 1) := by decide +kernel
theorem dX7_hasNumber_34 : decode cX7_hasNumber 34 = .ok (.putfield 127, 3) := by decide +kernel
theorem dX7_hasNumber_37 : decode cX7_hasNumber 37 = .ok (.aload_n 0, 1) := by decide +kernel
theorem dX7_hasNumber_38 : decode cX7_hasNumber 38 = .ok (.getfield 127, 3) := by decide +kernel
theorem dX7_hasNumber_41 : decode cX7_hasNumber 41 = .ok (.ifCond .ne 7, 3) := by decide +kernel
theorem dX7_hasNumber_44 : decode cX7_hasNumber 44 = .ok (.iconst 1, 1) := by decide +kernel
theorem dX7_hasNumber_45 : decode cX7_hasNumber 45 = .ok (.goto 4, 3) := by decide +kernel
theorem dX7_hasNumber_48 : decode cX7_hasNumber 48 = .ok (.iconst 0, 1) := by decide +kernel
theorem dX7_hasNumber_49 : decode cX7_hasNumber 49 = .ok (.ireturn, 1) := by decide +kernel
theorem dX7_isDirectory_0 : decode cX7_isDirectory 0 = .ok (.aload_n 0, 1) := by decide +kernel
theorem dX7_isDirectory_1 : decode cX7_isDirectory 1 = .ok (.iload_n 1, 1) := by decide +kernel
theorem dX7_isDirectory_2 : decode cX7_isDirectory 2 = .ok (.invokevirtual 295, 3) := by decide +kernel
theorem dX7_isDirectory_5 : decode cX7_isDirectory 5 = .ok (.ifCond .eq 15, 3) := by decide +kernel
theorem dX7_isDirectory_8 : decode cX7_isDirectory 8 = .ok (.aload_n 0, 1) := by decide +kernel
theorem dX7_isDirectory_9 : decode cX7_isDirectory 9 = .ok (.iload_n 1, 1) := by decide +kernel
theorem dX7_isDirectory_10 : decode cX7_isDirectory 10 = .ok (.invokevirtual 213, 3) := by decide +kernel
theorem dX7_isDirectory_13 : decode cX7_isDirectory 13 = .ok (.ifCond .eq 7, 3) := by decide +kernel
theorem dX7_isDirectory_16 : decode cX7_isDirectory 16 = .ok (.iconst 1, 1) := by decide +kernel
theorem dX7_isDirectory_17 : decode cX7_isDirectory 17 = .ok (.goto 4, 3) := by decide +kernel
theorem dX7_isDirectory_20 : decode cX7_isDirectory 20 = .ok (.iconst 0, 1) := by decide +kernel
theorem dX7_isDirectory_21 : decode cX7_isDirectory 21 = .ok (.ireturn, 1) := by decide +kernel
theorem dX7_links_0 : decode cX7_links 0 = .ok (.aload_n 0, 1) := by decide +kernel
theorem dX7_links_1 : decode cX7_links 1 = .ok (.iload_n 1, 1) := by decide +kernel
theorem dX7_links_2 : decode cX7_links 2 = .ok (.invokevirtual 295, 3) := by decide +kernel
theorem dX7_links_5 : decode cX7_links 5 = .ok (.ifCond .eq 11, 3) := by decide +kernel
theorem dX7_links_8 : decode cX7_links 8 = .ok (.aload_n 0, 1) := by decide +kernel
theorem dX7_links_9 : decode cX7_links 9 = .ok (.iload_n 1, 1) := by decide +kernel
theorem dX7_links_10 : decode cX7_links 10 = .ok (.invokevirtual 237, 3) := by decide +kernel
theorem dX7_links_13 : decode cX7_links 13 = .ok (.goto 4, 3) := by decide +kernel
theorem dX7_links_16 : decode cX7_links 16 = .ok (.iconst 0, 1) := by decide +kernel
theorem dX7_links_17 : decode cX7_links 17 = .ok (.ireturn, 1) := by decide +kernel
theorem dX7_length_0 : decode cX7_length 0 = .ok (.aload_n 0, 1) := by decide +kernel
theorem dX7_length_1 : decode cX7_length 1 = .ok (.aload_n 0, 1) := by decide +kernel
theorem dX7_length_2 : decode cX7_length 2 = .ok (.getfield 174, 3) := by decide +kernel
theorem dX7_length_5 : decode cX7_length 5 = .ok (.ifCond .eq 7, 3) := by decide +kernel
theorem dX7_length_8 : decode cX7_length 8 = .ok (.iconst 2, 1) := by decide +kernel
theorem dX7_length_9 : decode cX7_length 9 = .ok (.goto 17, 3) := by decide +kernel
theorem dX7_length_12 : decode cX7_length 12 = .ok (.aload_n 0, 1) := by decide +kernel
theorem dX7_length_13 : decode cX7_length 13 = .ok (.iload_n 1, 1) := by decide +kernel
theorem dX7_length_14 : decode cX7_length 14 = .ok (.invokevirtual 233, 3) := by decide +kernel
theorem dX7_length_17 : decode cX7_length 17 = .ok (.iconst (-1), 1) := by decide +kernel
theorem dX7_length_18 : decode cX7_length 18 = .ok (.if_icmp .ne 7, 3) := by decide +kernel
theorem dX7_length_21 : decode cX7_length 21 = .ok (.iconst 1, 1) := by decide +kernel
theorem dX7_length_22 : decode cX7_length 22 = .ok (.goto 4, 3) := by decide +kernel
theorem dX7_length_25 : decode cX7_length 25 = .ok (.iconst 0, 1) := by decide +kernel
theorem dX7_length_26 : decode cX7_length 26 = .ok (.putfield 127, 3) := by decide +kernel
theorem dX7_length_29 : decode cX7_length 29 = .ok (.aload_n 0, 1) := by decide +kernel
theorem dX7_length_30 : decode cX7_length 30 = .ok (.getfield 127, 3) := by decide +kernel
theorem dX7_length_33 : decode cX7_length 33 = .ok (.ifCond .ne 16, 3) := by decide +kernel
theorem dX7_length_36 : decode cX7_length 36 = .ok (.aload_n 0, 1) := by decide +kernel
theorem dX7_length_37 : decode cX7_length 37 = .ok (.getfield 87, 3) := by decide +kernel
theorem dX7_length_40 : decode cX7_length 40 = .ok (.aload_n 0, 1) := by decide +kernel
theorem dX7_length_41 : decode cX7_length 41 = .ok (.iload_n 1, 1) := by decide +kernel
theorem dX7_length_42 : decode cX7_length 42 = .ok (.invokevirtual 233, 3) := by decide +kernel
theorem dX7_length_45 : decode cX7_length 45 = .ok (.iaload, 1) := by decide +kernel
theorem dX7_length_46 : decode cX7_length 46 = .ok (.goto 4, 3) := by decide +kernel
theorem dX7_length_49 : decode cX7_length 49 = .ok (.iconst 0, 1) := by decide +kernel
theorem dX7_length_50 : decode cX7_length 50 = .ok (.ireturn, 1) := by decide +kernel
theorem dX7_byteAt_0 : decode cX7_byteAt 0 = .ok (.aload_n 0, 1) := by decide +kernel
theorem dX7_byteAt_1 : decode cX7_byteAt 1 = .ok (.iload_n 1, 1) := by decide +kernel
theorem dX7_byteAt_2 : decode cX7_byteAt 2 = .ok (.invokevirtual 298, 3) := by decide +kernel
theorem dX7_byteAt_5 : decode cX7_byteAt 5 = .ok (.istore_n 3, 1) := by decide +kernel
theorem dX7_byteAt_6 : decode cX7_byteAt 6 = .ok (.aload_n 0, 1) := by decide +kernel
theorem dX7_byteAt_7 : decode cX7_byteAt 7 = .ok (.aload_n 0, 1) := by decide +kernel
theorem dX7_byteAt_8 : decode cX7_byteAt 8 = .ok (.getfield 127, 3) := by decide +kernel
theorem dX7_byteAt_11 : decode cX7_byteAt 11 = .ok (.ifCond .ne 18, 3) := by decide +kernel
theorem dX7_byteAt_14 : decode cX7_byteAt 14 = .ok (.iload_n 2, 1) := by decide +kernel
theorem dX7_byteAt_15 : decode cX7_byteAt 15 = .ok (.iconst 0, 1) := by decide +kernel
theorem dX7_byteAt_16 : decode cX7_byteAt 16 = .ok (.iload_n 3, 1) := by decide +kernel
theorem dX7_byteAt_17 : decode cX7_byteAt 17 = .ok (.iconst 1, 1) := by decide +kernel
theorem dX7_byteAt_18 : decode cX7_byteAt 18 = .ok (.isub, 1) := by decide +kernel
theorem dX7_byteAt_19 : decode cX7_byteAt 19 = .ok (.invokestatic 210, 3) := by decide +kernel
theorem dX7_byteAt_22 : decode cX7_byteAt 22 = .ok (.ifCond .ne 7, 3) := by decide +kernel
theorem dX7_byteAt_25 : decode cX7_byteAt 25 = .ok (.iconst 1, 1) := by decide +kernel
theorem dX7_byteAt_26 : decode cX7_byteAt 26 = .ok (.goto 7, 3) := by decide +kernel
theorem dX7_byteAt_29 : decode cX7_byteAt 29 = .ok (.aload_n 0, 1) := by decide +kernel
theorem dX7_byteAt_30 : decode cX7_byteAt 30 = .ok (.getfield 127, 3) := by decide +kernel
theorem dX7_byteAt_33 : decode cX7_byteAt 33 = .ok (.putfield 127, 3) := by decide +kernel
theorem dX7_byteAt_36 : decode cX7_byteAt 36 = .ok (.aload_n 0, 1) := by decide +kernel
theorem dX7_byteAt_37 : decode cX7_byteAt 37 = .ok (.getfield 127, 3) := by decide +kernel
theorem dX7_byteAt_40 : decode cX7_byteAt 40 = .ok (.ifCond .ne 21, 3) := by decide +kernel
theorem dX7_byteAt_43 : decode cX7_byteAt 43 = .ok (.aload_n 0, 1) := by decide +kernel
theorem dX7_byteAt_44 : decode cX7_byteAt 44 = .ok (.getfield 93, 3) := by decide +kernel
theorem dX7_byteAt_47 : decode cX7_byteAt 47 = .ok (.bipush 64, 2) := by decide +kernel
theorem dX7_byteAt_49 : decode cX7_byteAt 49 = .ok (.aload_n 0, 1) := by decide +kernel
theorem dX7_byteAt_50 : decode cX7_byteAt 50 = .ok (.iload_n 1, 1) := by decide +kernel
theorem dX7_byteAt_51 : decode cX7_byteAt 51 = .ok (.invokevirtual 233, 3) := by decide +kernel
theorem dX7_byteAt_54 : decode cX7_byteAt 54 = .ok (.imul, 1) := by decide +kernel
theorem dX7_byteAt_55 : decode cX7_byteAt 55 = .ok (.iload_n 2, 1) := by decide +kernel
theorem dX7_byteAt_56 : decode cX7_byteAt 56 = .ok (.iadd, 1) := by decide +kernel
theorem dX7_byteAt_57 : decode cX7_byteAt 57 = .ok (.iaload, 1) := by decide +kernel
theorem dX7_byteAt_58 : decode cX7_byteAt 58 = .ok (.goto 4, 3) := by decide +kernel
theorem dX7_byteAt_61 : decode cX7_byteAt 61 = .ok (.iconst 0, 1) := by decide +kernel
theorem dX7_byteAt_62 : decode cX7_byteAt 62 = .ok (.ireturn, 1) := by decide +kernel
theorem dX7_byteByNodes_0 : decode cX7_byteByNodes 0 = .ok (.aload_n 0, 1) := by decide +kernel
theorem dX7_byteByNodes_1 : decode cX7_byteByNodes 1 = .ok (.iload_n 1, 1) := by decide +kernel
theorem dX7_byteByNodes_2 : decode cX7_byteByNodes 2 = .ok (.iload_n 2, 1) := by decide +kernel
theorem dX7_byteByNodes_3 : decode cX7_byteByNodes 3 = .ok (.invokevirtual 301, 3) := by decide +kernel
theorem dX7_byteByNodes_6 : decode cX7_byteByNodes 6 = .ok (.ireturn, 1) := by decide +kernel
theorem dX7_asksFor_0 : decode cX7_asksFor 0 = .ok (.aload_n 0, 1) := by decide +kernel
theorem dX7_asksFor_1 : decode cX7_asksFor 1 = .ok (.aload_n 0, 1) := by decide +kernel
theorem dX7_asksFor_2 : decode cX7_asksFor 2 = .ok (.getfield 174, 3) := by decide +kernel
theorem dX7_asksFor_5 : decode cX7_asksFor 5 = .ok (.ifCond .eq 7, 3) := by decide +kernel
theorem dX7_asksFor_8 : decode cX7_asksFor 8 = .ok (.iconst 2, 1) := by decide +kernel
theorem dX7_asksFor_9 : decode cX7_asksFor 9 = .ok (.goto 18, 3) := by decide +kernel
theorem dX7_asksFor_12 : decode cX7_asksFor 12 = .ok (.iload_n 1, 1) := by decide +kernel
theorem dX7_asksFor_13 : decode cX7_asksFor 13 = .ok (.iconst 0, 1) := by decide +kernel
theorem dX7_asksFor_14 : decode cX7_asksFor 14 = .ok (.bipush 7, 2) := by decide +kernel
theorem dX7_asksFor_16 : decode cX7_asksFor 16 = .ok (.invokestatic 210, 3) := by decide +kernel
theorem dX7_asksFor_19 : decode cX7_asksFor 19 = .ok (.ifCond .ne 7, 3) := by decide +kernel
theorem dX7_asksFor_22 : decode cX7_asksFor 22 = .ok (.iconst 1, 1) := by decide +kernel
theorem dX7_asksFor_23 : decode cX7_asksFor 23 = .ok (.goto 4, 3) := by decide +kernel
theorem dX7_asksFor_26 : decode cX7_asksFor 26 = .ok (.iconst 0, 1) := by decide +kernel
theorem dX7_asksFor_27 : decode cX7_asksFor 27 = .ok (.putfield 127, 3) := by decide +kernel
theorem dX7_asksFor_30 : decode cX7_asksFor 30 = .ok (.aload_n 0, 1) := by decide +kernel
theorem dX7_asksFor_31 : decode cX7_asksFor 31 = .ok (.getfield 127, 3) := by decide +kernel
theorem dX7_asksFor_34 : decode cX7_asksFor 34 = .ok (.ifCond .ne 7, 3) := by decide +kernel
theorem dX7_asksFor_37 : decode cX7_asksFor 37 = .ok (.iconst 1, 1) := by decide +kernel
theorem dX7_asksFor_38 : decode cX7_asksFor 38 = .ok (.goto 4, 3) := by decide +kernel
theorem dX7_asksFor_41 : decode cX7_asksFor 41 = .ok (.iconst 0, 1) := by decide +kernel
theorem dX7_asksFor_42 : decode cX7_asksFor 42 = .ok (.ireturn, 1) := by decide +kernel
theorem dX7_state_0 : decode cX7_state 0 = .ok (.aload_n 0, 1) := by decide +kernel
theorem dX7_state_1 : decode cX7_state 1 = .ok (.iload_n 1, 1) := by decide +kernel
theorem dX7_state_2 : decode cX7_state 2 = .ok (.invokevirtual 304, 3) := by decide +kernel
theorem dX7_state_5 : decode cX7_state 5 = .ok (.ifCond .eq 11, 3) := by decide +kernel
theorem dX7_state_8 : decode cX7_state 8 = .ok (.aload_n 0, 1) := by decide +kernel
theorem dX7_state_9 : decode cX7_state 9 = .ok (.iload_n 1, 1) := by decide +kernel
theorem dX7_state_10 : decode cX7_state 10 = .ok (.invokevirtual 264, 3) := by decide +kernel
theorem dX7_state_13 : decode cX7_state 13 = .ok (.goto 4, 3) := by decide +kernel
theorem dX7_state_16 : decode cX7_state 16 = .ok (.iconst 0, 1) := by decide +kernel
theorem dX7_state_17 : decode cX7_state 17 = .ok (.ireturn, 1) := by decide +kernel
theorem dX7_dead_0 : decode cX7_dead 0 = .ok (.aload_n 0, 1) := by decide +kernel
theorem dX7_dead_1 : decode cX7_dead 1 = .ok (.iload_n 1, 1) := by decide +kernel
theorem dX7_dead_2 : decode cX7_dead 2 = .ok (.invokevirtual 304, 3) := by decide +kernel
theorem dX7_dead_5 : decode cX7_dead 5 = .ok (.ifCond .eq 11, 3) := by decide +kernel
theorem dX7_dead_8 : decode cX7_dead 8 = .ok (.aload_n 0, 1) := by decide +kernel
theorem dX7_dead_9 : decode cX7_dead 9 = .ok (.iload_n 1, 1) := by decide +kernel
theorem dX7_dead_10 : decode cX7_dead 10 = .ok (.invokevirtual 258, 3) := by decide +kernel
theorem dX7_dead_13 : decode cX7_dead 13 = .ok (.goto 4, 3) := by decide +kernel
theorem dX7_dead_16 : decode cX7_dead 16 = .ok (.iconst 0, 1) := by decide +kernel
theorem dX7_dead_17 : decode cX7_dead 17 = .ok (.ireturn, 1) := by decide +kernel
theorem dX7_toCopy_0 : decode cX7_toCopy 0 = .ok (.aload_n 0, 1) := by decide +kernel
theorem dX7_toCopy_1 : decode cX7_toCopy 1 = .ok (.iload_n 1, 1) := by decide +kernel
theorem dX7_toCopy_2 : decode cX7_toCopy 2 = .ok (.invokevirtual 304, 3) := by decide +kernel
theorem dX7_toCopy_5 : decode cX7_toCopy 5 = .ok (.ifCond .eq 11, 3) := by decide +kernel
theorem dX7_toCopy_8 : decode cX7_toCopy 8 = .ok (.aload_n 0, 1) := by decide +kernel
theorem dX7_toCopy_9 : decode cX7_toCopy 9 = .ok (.iload_n 1, 1) := by decide +kernel
theorem dX7_toCopy_10 : decode cX7_toCopy 10 = .ok (.invokevirtual 270, 3) := by decide +kernel
theorem dX7_toCopy_13 : decode cX7_toCopy 13 = .ok (.goto 4, 3) := by decide +kernel
theorem dX7_toCopy_16 : decode cX7_toCopy 16 = .ok (.iconst 0, 1) := by decide +kernel
theorem dX7_toCopy_17 : decode cX7_toCopy 17 = .ok (.ireturn, 1) := by decide +kernel
theorem dX7_isBlock_0 : decode cX7_isBlock 0 = .ok (.aload_n 0, 1) := by decide +kernel
theorem dX7_isBlock_1 : decode cX7_isBlock 1 = .ok (.iload_n 1, 1) := by decide +kernel
theorem dX7_isBlock_2 : decode cX7_isBlock 2 = .ok (.iconst 0, 1) := by decide +kernel
theorem dX7_isBlock_3 : decode cX7_isBlock 3 = .ok (.bipush 7, 2) := by decide +kernel
theorem dX7_isBlock_5 : decode cX7_isBlock 5 = .ok (.invokestatic 210, 3) := by decide +kernel
theorem dX7_isBlock_8 : decode cX7_isBlock 8 = .ok (.ifCond .eq 7, 3) := by decide +kernel
theorem dX7_isBlock_11 : decode cX7_isBlock 11 = .ok (.iconst 0, 1) := by decide +kernel
theorem dX7_isBlock_12 : decode cX7_isBlock 12 = .ok (.goto 4, 3) := by decide +kernel
theorem dX7_isBlock_15 : decode cX7_isBlock 15 = .ok (.iconst 1, 1) := by decide +kernel
theorem dX7_isBlock_16 : decode cX7_isBlock 16 = .ok (.putfield 127, 3) := by decide +kernel
theorem dX7_isBlock_19 : decode cX7_isBlock 19 = .ok (.aload_n 0, 1) := by decide +kernel
theorem dX7_isBlock_20 : decode cX7_isBlock 20 = .ok (.getfield 127, 3) := by decide +kernel
theorem dX7_isBlock_23 : decode cX7_isBlock 23 = .ok (.ifCond .ne 7, 3) := by decide +kernel
theorem dX7_isBlock_26 : decode cX7_isBlock 26 = .ok (.iconst 1, 1) := by decide +kernel
theorem dX7_isBlock_27 : decode cX7_isBlock 27 = .ok (.goto 4, 3) := by decide +kernel
theorem dX7_isBlock_30 : decode cX7_isBlock 30 = .ok (.iconst 0, 1) := by decide +kernel
theorem dX7_isBlock_31 : decode cX7_isBlock 31 = .ok (.ireturn, 1) := by decide +kernel
theorem dX7_written_0 : decode cX7_written 0 = .ok (.aload_n 0, 1) := by decide +kernel
theorem dX7_written_1 : decode cX7_written 1 = .ok (.iload_n 1, 1) := by decide +kernel
theorem dX7_written_2 : decode cX7_written 2 = .ok (.invokevirtual 307, 3) := by decide +kernel
theorem dX7_written_5 : decode cX7_written 5 = .ok (.ifCond .eq 12, 3) := by decide +kernel
theorem dX7_written_8 : decode cX7_written 8 = .ok (.aload_n 0, 1) := by decide +kernel
theorem dX7_written_9 : decode cX7_written 9 = .ok (.getfield 51, 3) := by decide +kernel
theorem dX7_written_12 : decode cX7_written 12 = .ok (.iload_n 1, 1) := by decide +kernel
theorem dX7_written_13 : decode cX7_written 13 = .ok (.iaload, 1) := by decide +kernel
theorem dX7_written_14 : decode cX7_written 14 = .ok (.goto 4, 3) := by decide +kernel
theorem dX7_written_17 : decode cX7_written 17 = .ok (.iconst 0, 1) := by decide +kernel
theorem dX7_written_18 : decode cX7_written 18 = .ok (.ireturn, 1) := by decide +kernel
theorem dX7_nodes_0 : decode cX7_nodes 0 = .ok (.aload_n 0, 1) := by decide +kernel
theorem dX7_nodes_1 : decode cX7_nodes 1 = .ok (.iload_n 1, 1) := by decide +kernel
theorem dX7_nodes_2 : decode cX7_nodes 2 = .ok (.invokevirtual 307, 3) := by decide +kernel
theorem dX7_nodes_5 : decode cX7_nodes 5 = .ok (.ifCond .eq 12, 3) := by decide +kernel
theorem dX7_nodes_8 : decode cX7_nodes 8 = .ok (.aload_n 0, 1) := by decide +kernel
theorem dX7_nodes_9 : decode cX7_nodes 9 = .ok (.getfield 48, 3) := by decide +kernel
theorem dX7_nodes_12 : decode cX7_nodes 12 = .ok (.iload_n 1, 1) := by decide +kernel
theorem dX7_nodes_13 : decode cX7_nodes 13 = .ok (.iaload, 1) := by decide +kernel
theorem dX7_nodes_14 : decode cX7_nodes 14 = .ok (.goto 4, 3) := by decide +kernel
theorem dX7_nodes_17 : decode cX7_nodes 17 = .ok (.iconst 0, 1) := by decide +kernel
theorem dX7_nodes_18 : decode cX7_nodes 18 = .ok (.ireturn, 1) := by decide +kernel
theorem dX7_node_0 : decode cX7_node 0 = .ok (.aload_n 0, 1) := by decide +kernel
theorem dX7_node_1 : decode cX7_node 1 = .ok (.iload_n 1, 1) := by decide +kernel
theorem dX7_node_2 : decode cX7_node 2 = .ok (.iconst 0, 1) := by decide +kernel
theorem dX7_node_3 : decode cX7_node 3 = .ok (.bipush 7, 2) := by decide +kernel
theorem dX7_node_5 : decode cX7_node 5 = .ok (.invokestatic 210, 3) := by decide +kernel
theorem dX7_node_8 : decode cX7_node 8 = .ok (.ifCond .eq 23, 3) := by decide +kernel
theorem dX7_node_11 : decode cX7_node 11 = .ok (.iload_n 2, 1) := by decide +kernel
theorem dX7_node_12 : decode cX7_node 12 = .ok (.iconst 0, 1) := by decide +kernel
theorem dX7_node_13 : decode cX7_node 13 = .ok (.aload_n 0, 1) := by decide +kernel
theorem dX7_node_14 : decode cX7_node 14 = .ok (.getfield 48, 3) := by decide +kernel
theorem dX7_node_17 : decode cX7_node 17 = .ok (.iload_n 1, 1) := by decide +kernel
theorem dX7_node_18 : decode cX7_node 18 = .ok (.iaload, 1) := by decide +kernel
theorem dX7_node_19 : decode cX7_node 19 = .ok (.iconst 1, 1) := by decide +kernel
theorem dX7_node_20 : decode cX7_node 20 = .ok (.isub, 1) := by decide +kernel
theorem dX7_node_21 : decode cX7_node 21 = .ok (.invokestatic 210, 3) := by decide +kernel
theorem dX7_node_24 : decode cX7_node 24 = .ok (.ifCond .eq 7, 3) := by decide +kernel
theorem dX7_node_27 : decode cX7_node 27 = .ok (.iconst 0, 1) := by decide +kernel
theorem dX7_node_28 : decode cX7_node 28 = .ok (.goto 4, 3) := by decide +kernel
theorem dX7_node_31 : decode cX7_node 31 = .ok (.iconst 1, 1) := by decide +kernel
theorem dX7_node_32 : decode cX7_node 32 = .ok (.putfield 127, 3) := by decide +kernel
theorem dX7_node_35 : decode cX7_node 35 = .ok (.aload_n 0, 1) := by decide +kernel
theorem dX7_node_36 : decode cX7_node 36 = .ok (.getfield 127, 3) := by decide +kernel
theorem dX7_node_39 : decode cX7_node 39 = .ok (.ifCond .le 5, 3) := by decide +kernel
theorem dX7_node_42 : decode cX7_node 42 = .ok (.lconst 0, 1) := by decide +kernel
theorem dX7_node_43 : decode cX7_node 43 = .ok (.lreturn, 1) := by decide +kernel
theorem dX7_node_44 : decode cX7_node 44 = .ok (.bipush 16, 2) := by decide +kernel
theorem dX7_node_46 : decode cX7_node 46 = .ok (.iload_n 1, 1) := by decide +kernel
theorem dX7_node_47 : decode cX7_node 47 = .ok (.imul, 1) := by decide +kernel
theorem dX7_node_48 : decode cX7_node 48 = .ok (.iload_n 2, 1) := by decide +kernel
theorem dX7_node_49 : decode cX7_node 49 = .ok (.iadd, 1) := by decide +kernel
theorem dX7_node_50 : decode cX7_node 50 = .ok (.istore_n 3, 1) := by decide +kernel
theorem dX7_node_51 : decode cX7_node 51 = .ok (.aload_n 0, 1) := by decide +kernel
theorem dX7_node_52 : decode cX7_node 52 = .ok (.iload_n 3, 1) := by decide +kernel
theorem dX7_node_53 : decode cX7_node 53 = .ok (.invokevirtual 155, 3) := by decide +kernel
theorem dX7_node_56 : decode cX7_node 56 = .ok (.ifCond .eq 13, 3) := by decide +kernel
theorem dX7_node_59 : decode cX7_node 59 = .ok (.aload_n 0, 1) := by decide +kernel
theorem dX7_node_60 : decode cX7_node 60 = .ok (.getfield 7, 3) := by decide +kernel
theorem dX7_node_63 : decode cX7_node 63 = .ok (.iload_n 3, 1) := by decide +kernel
theorem dX7_node_64 : decode cX7_node 64 = .ok (.iaload, 1) := by decide +kernel
theorem dX7_node_65 : decode cX7_node 65 = .ok (.iconst 3, 1) := by decide +kernel
theorem dX7_node_66 : decode cX7_node 66 = .ok (.if_icmp .ne 30, 3) := by decide +kernel
theorem dX7_node_69 : decode cX7_node 69 = .ok (.aload_n 0, 1) := by decide +kernel
theorem dX7_node_70 : decode cX7_node 70 = .ok (.iload_n 3, 1) := by decide +kernel
theorem dX7_node_71 : decode cX7_node 71 = .ok (.invokevirtual 155, 3) := by decide +kernel
theorem dX7_node_74 : decode cX7_node 74 = .ok (.ifCond .eq 7, 3) := by decide +kernel
theorem dX7_node_77 : decode cX7_node 77 = .ok (.iconst 3, 1) := by decide +kernel
theorem dX7_node_78 : decode cX7_node 78 = .ok (.goto 4, 3) := by decide +kernel
theorem dX7_node_81 : decode cX7_node 81 = .ok (.iconst 4, 1) := by decide +kernel
theorem dX7_node_82 : decode cX7_node 82 = .ok (.i2l, 1) := by decide +kernel
theorem dX7_node_83 : decode cX7_node 83 = .ok (.ldc2_w 310, 3) := by decide +kernel
theorem dX7_node_86 : decode cX7_node 86 = .ok (.aload_n 0, 1) := by decide +kernel
theorem dX7_node_87 : decode cX7_node 87 = .ok (.getfield 45, 3) := by decide +kernel
theorem dX7_node_90 : decode cX7_node 90 = .ok (.iload_n 3, 1) := by decide +kernel
theorem dX7_node_91 : decode cX7_node 91 = .ok (.iaload, 1) := by decide +kernel
theorem dX7_node_92 : decode cX7_node 92 = .ok (.i2l, 1) := by decide +kernel
theorem dX7_node_93 : decode cX7_node 93 = .ok (.lmul, 1) := by decide +kernel
theorem dX7_node_94 : decode cX7_node 94 = .ok (.ladd, 1) := by decide +kernel
theorem dX7_node_95 : decode cX7_node 95 = .ok (.lreturn, 1) := by decide +kernel
theorem dX7_node_96 : decode cX7_node 96 = .ok (.aload_n 0, 1) := by decide +kernel
theorem dX7_node_97 : decode cX7_node 97 = .ok (.getfield 7, 3) := by decide +kernel
theorem dX7_node_100 : decode cX7_node 100 = .ok (.iload_n 3, 1) := by decide +kernel
theorem dX7_node_101 : decode cX7_node 101 = .ok (.iaload, 1) := by decide +kernel
theorem dX7_node_102 : decode cX7_node 102 = .ok (.i2l, 1) := by decide +kernel
theorem dX7_node_103 : decode cX7_node 103 = .ok (.ldc2_w 310, 3) := by decide +kernel
theorem dX7_node_106 : decode cX7_node 106 = .ok (.aload_n 0, 1) := by decide +kernel
theorem dX7_node_107 : decode cX7_node 107 = .ok (.getfield 45, 3) := by decide +kernel
theorem dX7_node_110 : decode cX7_node 110 = .ok (.iload_n 3, 1) := by decide +kernel
theorem dX7_node_111 : decode cX7_node 111 = .ok (.iaload, 1) := by decide +kernel
theorem dX7_node_112 : decode cX7_node 112 = .ok (.i2l, 1) := by decide +kernel
theorem dX7_node_113 : decode cX7_node 113 = .ok (.lmul, 1) := by decide +kernel
theorem dX7_node_114 : decode cX7_node 114 = .ok (.ladd, 1) := by decide +kernel
theorem dX7_node_115 : decode cX7_node 115 = .ok (.ldc2_w 312, 3) := by decide +kernel
theorem dX7_node_118 : decode cX7_node 118 = .ok (.aload_n 0, 1) := by decide +kernel
theorem dX7_node_119 : decode cX7_node 119 = .ok (.getfield 13, 3) := by decide +kernel
theorem dX7_node_122 : decode cX7_node 122 = .ok (.iload_n 3, 1) := by decide +kernel
theorem dX7_node_123 : decode cX7_node 123 = .ok (.iaload, 1) := by decide +kernel
theorem dX7_node_124 : decode cX7_node 124 = .ok (.i2l, 1) := by decide +kernel
theorem dX7_node_125 : decode cX7_node 125 = .ok (.lmul, 1) := by decide +kernel
theorem dX7_node_126 : decode cX7_node 126 = .ok (.ladd, 1) := by decide +kernel
theorem dX7_node_127 : decode cX7_node 127 = .ok (.ldc2_w 314, 3) := by decide +kernel
theorem dX7_node_130 : decode cX7_node 130 = .ok (.aload_n 0, 1) := by decide +kernel
theorem dX7_node_131 : decode cX7_node 131 = .ok (.getfield 16, 3) := by decide +kernel
theorem dX7_node_134 : decode cX7_node 134 = .ok (.iload_n 3, 1) := by decide +kernel
theorem dX7_node_135 : decode cX7_node 135 = .ok (.iaload, 1) := by decide +kernel
theorem dX7_node_136 : decode cX7_node 136 = .ok (.i2l, 1) := by decide +kernel
theorem dX7_node_137 : decode cX7_node 137 = .ok (.lmul, 1) := by decide +kernel
theorem dX7_node_138 : decode cX7_node 138 = .ok (.ladd, 1) := by decide +kernel
theorem dX7_node_139 : decode cX7_node 139 = .ok (.lreturn, 1) := by decide +kernel
theorem dX7_erased_0 : decode cX7_erased 0 = .ok (.aload_n 0, 1) := by decide +kernel
theorem dX7_erased_1 : decode cX7_erased 1 = .ok (.iload_n 1, 1) := by decide +kernel
theorem dX7_erased_2 : decode cX7_erased 2 = .ok (.invokevirtual 307, 3) := by decide +kernel
theorem dX7_erased_5 : decode cX7_erased 5 = .ok (.ifCond .eq 12, 3) := by decide +kernel
theorem dX7_erased_8 : decode cX7_erased 8 = .ok (.aload_n 0, 1) := by decide +kernel
theorem dX7_erased_9 : decode cX7_erased 9 = .ok (.getfield 54, 3) := by decide +kernel
theorem dX7_erased_12 : decode cX7_erased 12 = .ok (.iload_n 1, 1) := by decide +kernel
theorem dX7_erased_13 : decode cX7_erased 13 = .ok (.iaload, 1) := by decide +kernel
theorem dX7_erased_14 : decode cX7_erased 14 = .ok (.goto 4, 3) := by decide +kernel
theorem dX7_erased_17 : decode cX7_erased 17 = .ok (.iconst 0, 1) := by decide +kernel
theorem dX7_erased_18 : decode cX7_erased 18 = .ok (.ireturn, 1) := by decide +kernel
