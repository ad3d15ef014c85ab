theorem dX10_advances_58 : decode cX10_advances 58 = .ok (.bipush 57, 2) := by decide +kernel
theorem dX10_advances_60 : decode cX10_advances 60 = .ok (.invokestatic 66, 3) := by decide +kernel
theorem dX10_advances_63 : decode cX10_advances 63 = .ok (.ifCond .eq 120, 3) := by decide +kernel
theorem dX10_advances_66 : decode cX10_advances 66 = .ok (.aload_n 0, 1) := by decide +kernel
theorem dX10_advances_67 : decode cX10_advances 67 = .ok (.iconst 0, 1) := by decide +kernel
theorem dX10_advances_68 : decode cX10_advances 68 = .ok (.putfield 86, 3) := by decide +kernel
theorem dX10_advances_71 : decode cX10_advances 71 = .ok (.aload_n 0, 1) := by decide +kernel
theorem dX10_advances_72 : decode cX10_advances 72 = .ok (.aload_n 0, 1) := by decide +kernel
theorem dX10_advances_73 : decode cX10_advances 73 = .ok (.getfield 73, 3) := by decide +kernel
theorem dX10_advances_76 : decode cX10_advances 76 = .ok (.invokevirtual 76, 3) := by decide +kernel
theorem dX10_advances_79 : decode cX10_advances 79 = .ok (.bipush 48, 2) := by decide +kernel
theorem dX10_advances_81 : decode cX10_advances 81 = .ok (.bipush 57, 2) := by decide +kernel
theorem dX10_advances_83 : decode cX10_advances 83 = .ok (.invokestatic 66, 3) := by decide +kernel
theorem dX10_advances_86 : decode cX10_advances 86 = .ok (.ifCond .eq 56, 3) := by decide +kernel
theorem dX10_advances_89 : decode cX10_advances 89 = .ok (.aload_n 0, 1) := by decide +kernel
theorem dX10_advances_90 : decode cX10_advances 90 = .ok (.aload_n 0, 1) := by decide +kernel
theorem dX10_advances_91 : decode cX10_advances 91 = .ok (.getfield 86, 3) := by decide +kernel
theorem dX10_advances_94 : decode cX10_advances 94 = .ok (.sipush 239, 3) := by decide +kernel
theorem dX10_advances_97 : decode cX10_advances 97 = .ok (.if_icmp .le 10, 3) := by decide +kernel
theorem dX10_advances_100 : decode cX10_advances 100 = .ok (.aload_n 0, 1) := by decide +kernel
theorem dX10_advances_101 : decode cX10_advances 101 = .ok (.getfield 86, 3) := by decide +kernel
theorem dX10_advances_104 : decode cX10_advances 104 = .ok (.goto 22, 3) := by decide +kernel
theorem dX10_advances_107 : decode cX10_advances 107 = .ok (.bipush 10, 2) := by decide +kernel
theorem dX10_advances_109 : decode cX10_advances 109 = .ok (.aload_n 0, 1) := by decide +kernel
theorem dX10_advances_110 : decode cX10_advances 110 = .ok (.getfield 86, 3) := by decide +kernel
theorem dX10_advances_113 : decode cX10_advances 113 = .ok (.imul, 1) := by decide +kernel
theorem dX10_advances_114 : decode cX10_advances 114 = .ok (.aload_n 0, 1) := by decide +kernel
theorem dX10_advances_115 : decode cX10_advances 115 = .ok (.aload_n 0, 1) := by decide +kernel
theorem dX10_advances_116 : decode cX10_advances 116 = .ok (.getfield 73, 3) := by decide +kernel
theorem dX10_advances_119 : decode cX10_advances 119 = .ok (.invokevirtual 76, 3) := by decide +kernel
theorem dX10_advances_122 : decode cX10_advances 122 = .ok (.iadd, 1) := by decide +kernel
theorem dX10_advances_123 : decode cX10_advances 123 = .ok (.bipush 48, 2) := by decide +kernel
theorem dX10_advances_125 : decode cX10_advances 125 = .ok (.isub, 1) := by decide +kernel
theorem dX10_advances_126 : decode cX10_advances 126 = .ok (.putfield 86, 3) := by decide +kernel
theorem dX10_advances_129 : decode cX10_advances 129 = .ok (.aload_n 0, 1) := by decide +kernel
theorem dX10_advances_130 : decode cX10_advances 130 = .ok (.dup, 1) := by decide +kernel
theorem dX10_advances_131 : decode cX10_advances 131 = .ok (.getfield 73, 3) := by decide +kernel
theorem dX10_advances_134 : decode cX10_advances 134 = .ok (.iconst 1, 1) := by decide +kernel
theorem dX10_advances_135 : decode cX10_advances 135 = .ok (.iadd, 1) := by decide +kernel
theorem dX10_advances_136 : decode cX10_advances 136 = .ok (.putfield 73, 3) := by decide +kernel
theorem dX10_advances_139 : decode cX10_advances 139 = .ok (.goto (-68), 3) := by decide +kernel
theorem dX10_advances_142 : decode cX10_advances 142 = .ok (.aload_n 0, 1) := by decide +kernel
theorem dX10_advances_143 : decode cX10_advances 143 = .ok (.aload_n 0, 1) := by decide +kernel
theorem dX10_advances_144 : decode cX10_advances 144 = .ok (.getfield 86, 3) := by decide +kernel
theorem dX10_advances_147 : decode cX10_advances 147 = .ok (.sipush 239, 3) := by decide +kernel
theorem dX10_advances_150 : decode cX10_advances 150 = .ok (.if_icmp .gt 22, 3) := by decide +kernel
theorem dX10_advances_153 : decode cX10_advances 153 = .ok (.iload_n 1, 1) := by decide +kernel
theorem dX10_advances_154 : decode cX10_advances 154 = .ok (.bipush 48, 2) := by decide +kernel
theorem dX10_advances_156 : decode cX10_advances 156 = .ok (.if_icmp .ne 20, 3) := by decide +kernel
theorem dX10_advances_159 : decode cX10_advances 159 = .ok (.aload_n 0, 1) := by decide +kernel
theorem dX10_advances_160 : decode cX10_advances 160 = .ok (.getfield 73, 3) := by decide +kernel
theorem dX10_advances_163 : decode cX10_advances 163 = .ok (.aload_n 0, 1) := by decide +kernel
theorem dX10_advances_164 : decode cX10_advances 164 = .ok (.getfield 80, 3) := by decide +kernel
theorem dX10_advances_167 : decode cX10_advances 167 = .ok (.isub, 1) := by decide +kernel
theorem dX10_advances_168 : decode cX10_advances 168 = .ok (.iconst 1, 1) := by decide +kernel
theorem dX10_advances_169 : decode cX10_advances 169 = .ok (.if_icmp .le 7, 3) := by decide +kernel
theorem dX10_advances_172 : decode cX10_advances 172 = .ok (.iconst 4, 1) := by decide +kernel
theorem dX10_advances_173 : decode cX10_advances 173 = .ok (.goto 4, 3) := by decide +kernel
theorem dX10_advances_176 : decode cX10_advances 176 = .ok (.iconst 2, 1) := by decide +kernel
theorem dX10_advances_177 : decode cX10_advances 177 = .ok (.putfield 83, 3) := by decide +kernel
theorem dX10_advances_180 : decode cX10_advances 180 = .ok (.goto 44, 3) := by decide +kernel
theorem dX10_advances_183 : decode cX10_advances 183 = .ok (.aload_n 0, 1) := by decide +kernel
theorem dX10_advances_184 : decode cX10_advances 184 = .ok (.dup, 1) := by decide +kernel
theorem dX10_advances_185 : decode cX10_advances 185 = .ok (.getfield 73, 3) := by decide +kernel
theorem dX10_advances_188 : decode cX10_advances 188 = .ok (.iconst 1, 1) := by decide +kernel
theorem dX10_advances_189 : decode cX10_advances 189 = .ok (.iadd, 1) := by decide +kernel
theorem dX10_advances_190 : decode cX10_advances 190 = .ok (.putfield 73, 3) := by decide +kernel
theorem dX10_advances_193 : decode cX10_advances 193 = .ok (.aload_n 0, 1) := by decide +kernel
theorem dX10_advances_194 : decode cX10_advances 194 = .ok (.iload_n 1, 1) := by decide +kernel
theorem dX10_advances_195 : decode cX10_advances 195 = .ok (.putfield 86, 3) := by decide +kernel
theorem dX10_advances_198 : decode cX10_advances 198 = .ok (.aload_n 0, 1) := by decide +kernel
theorem dX10_advances_199 : decode cX10_advances 199 = .ok (.iload_n 1, 1) := by decide +kernel
theorem dX10_advances_200 : decode cX10_advances 200 = .ok (.bipush 59, 2) := by decide +kernel
theorem dX10_advances_202 : decode cX10_advances 202 = .ok (.if_icmp .ne 7, 3) := by decide +kernel
theorem dX10_advances_205 : decode cX10_advances 205 = .ok (.iconst 3, 1) := by decide +kernel
theorem dX10_advances_206 : decode cX10_advances 206 = .ok (.goto 15, 3) := by decide +kernel
theorem dX10_advances_209 : decode cX10_advances 209 = .ok (.iload_n 1, 1) := by decide +kernel
theorem dX10_advances_210 : decode cX10_advances 210 = .ok (.invokestatic 89, 3) := by decide +kernel
theorem dX10_advances_213 : decode cX10_advances 213 = .ok (.ifCond .eq 7, 3) := by decide +kernel
theorem dX10_advances_216 : decode cX10_advances 216 = .ok (.iconst 1, 1) := by decide +kernel
theorem dX10_advances_217 : decode cX10_advances 217 = .ok (.goto 4, 3) := by decide +kernel
theorem dX10_advances_220 : decode cX10_advances 220 = .ok (.iconst 4, 1) := by decide +kernel
theorem dX10_advances_221 : decode cX10_advances 221 = .ok (.putfield 83, 3) := by decide +kernel
theorem dX10_advances_224 : decode cX10_advances 224 = .ok (.return_, 1) := by decide +kernel
theorem dX10_isWell_0 : decode cX10_isWell 0 = .ok (.aload_n 0, 1) := by decide +kernel
theorem dX10_isWell_1 : decode cX10_isWell 1 = .ok (.getfield 93, 3) := by decide +kernel
theorem dX10_isWell_4 : decode cX10_isWell 4 = .ok (.ifCond .ge 7, 3) := by decide +kernel
theorem dX10_isWell_7 : decode cX10_isWell 7 = .ok (.iconst 1, 1) := by decide +kernel
theorem dX10_isWell_8 : decode cX10_isWell 8 = .ok (.goto 4, 3) := by decide +kernel
theorem dX10_isWell_11 : decode cX10_isWell 11 = .ok (.iconst 0, 1) := by decide +kernel
theorem dX10_isWell_12 : decode cX10_isWell 12 = .ok (.ireturn, 1) := by decide +kernel
theorem dX10_takes_0 : decode cX10_takes 0 = .ok (.aload_n 0, 1) := by decide +kernel
theorem dX10_takes_1 : decode cX10_takes 1 = .ok (.invokevirtual 96, 3) := by decide +kernel
theorem dX10_takes_4 : decode cX10_takes 4 = .ok (.ifCond .ne 5, 3) := by decide +kernel
theorem dX10_takes_7 : decode cX10_takes 7 = .ok (.iconst 0, 1) := by decide +kernel
theorem dX10_takes_8 : decode cX10_takes 8 = .ok (.ireturn, 1) := by decide +kernel
theorem dX10_takes_9 : decode cX10_takes 9 = .ok (.iload_n 1, 1) := by decide +kernel
theorem dX10_takes_10 : decode cX10_takes 10 = .ok (.ifCond .ne 13, 3) := by decide +kernel
theorem dX10_takes_13 : decode cX10_takes 13 = .ok (.aload_n 0, 1) := by decide +kernel
theorem dX10_takes_14 : decode cX10_takes 14 = .ok (.aload_n 0, 1) := by decide +kernel
theorem dX10_takes_15 : decode cX10_takes 15 = .ok (.getfield 80, 3) := by decide +kernel
theorem dX10_takes_18 : decode cX10_takes 18 = .ok (.putfield 93, 3) := by decide +kernel
theorem dX10_takes_21 : decode cX10_takes 21 = .ok (.iconst 0, 1) := by decide +kernel
theorem dX10_takes_22 : decode cX10_takes 22 = .ok (.ireturn, 1) := by decide +kernel
theorem dX10_takes_23 : decode cX10_takes 23 = .ok (.aload_n 0, 1) := by decide +kernel
theorem dX10_takes_24 : decode cX10_takes 24 = .ok (.getfield 86, 3) := by decide +kernel
theorem dX10_takes_27 : decode cX10_takes 27 = .ok (.istore_n 2, 1) := by decide +kernel
theorem dX10_takes_28 : decode cX10_takes 28 = .ok (.aload_n 0, 1) := by decide +kernel
theorem dX10_takes_29 : decode cX10_takes 29 = .ok (.invokevirtual 100, 3) := by decide +kernel
theorem dX10_takes_32 : decode cX10_takes 32 = .ok (.iload_n 2, 1) := by decide +kernel
theorem dX10_takes_33 : decode cX10_takes 33 = .ok (.ireturn, 1) := by decide +kernel
theorem dX10_number_0 : decode cX10_number 0 = .ok (.aload_n 0, 1) := by decide +kernel
theorem dX10_number_1 : decode cX10_number 1 = .ok (.aload_n 0, 1) := by decide +kernel
theorem dX10_number_2 : decode cX10_number 2 = .ok (.getfield 83, 3) := by decide +kernel
theorem dX10_number_5 : decode cX10_number 5 = .ok (.iconst 2, 1) := by decide +kernel
theorem dX10_number_6 : decode cX10_number 6 = .ok (.if_icmp .ne 19, 3) := by decide +kernel
theorem dX10_number_9 : decode cX10_number 9 = .ok (.aload_n 0, 1) := by decide +kernel
theorem dX10_number_10 : decode cX10_number 10 = .ok (.getfield 86, 3) := by decide +kernel
theorem dX10_number_13 : decode cX10_number 13 = .ok (.iload_n 1, 1) := by decide +kernel
theorem dX10_number_14 : decode cX10_number 14 = .ok (.iload_n 2, 1) := by decide +kernel
theorem dX10_number_15 : decode cX10_number 15 = .ok (.invokestatic 66, 3) := by decide +kernel
theorem dX10_number_18 : decode cX10_number 18 = .ok (.ifCond .eq 7, 3) := by decide +kernel
theorem dX10_number_21 : decode cX10_number 21 = .ok (.iconst 1, 1) := by decide +kernel
theorem dX10_number_22 : decode cX10_number 22 = .ok (.goto 4, 3) := by decide +kernel
theorem dX10_number_25 : decode cX10_number 25 = .ok (.iconst 0, 1) := by decide +kernel
theorem dX10_number_26 : decode cX10_number 26 = .ok (.invokevirtual 103, 3) := by decide +kernel
theorem dX10_number_29 : decode cX10_number 29 = .ok (.ireturn, 1) := by decide +kernel
theorem dX10_begins_0 : decode cX10_begins 0 = .ok (.aload_n 0, 1) := by decide +kernel
theorem dX10_begins_1 : decode cX10_begins 1 = .ok (.iconst 0, 1) := by decide +kernel
theorem dX10_begins_2 : decode cX10_begins 2 = .ok (.putfield 107, 3) := by decide +kernel
theorem dX10_begins_5 : decode cX10_begins 5 = .ok (.aload_n 0, 1) := by decide +kernel
theorem dX10_begins_6 : decode cX10_begins 6 = .ok (.getfield 13, 3) := by decide +kernel
theorem dX10_begins_9 : decode cX10_begins 9 = .ok (.iconst 5, 1) := by decide +kernel
theorem dX10_begins_10 : decode cX10_begins 10 = .ok (.iconst 2, 1) := by decide +kernel
theorem dX10_begins_11 : decode cX10_begins 11 = .ok (.iastore, 1) := by decide +kernel
theorem dX10_begins_12 : decode cX10_begins 12 = .ok (.aload_n 0, 1) := by decide +kernel
theorem dX10_begins_13 : decode cX10_begins 13 = .ok (.getfield 13, 3) := by decide +kernel
theorem dX10_begins_16 : decode cX10_begins 16 = .ok (.bipush 6, 2) := by decide +kernel
theorem dX10_begins_18 : decode cX10_begins 18 = .ok (.iconst 0, 1) := by decide +kernel
theorem dX10_begins_19 : decode cX10_begins 19 = .ok (.iastore, 1) := by decide +kernel
theorem dX10_begins_20 : decode cX10_begins 20 = .ok (.aload_n 0, 1) := by decide +kernel
theorem dX10_begins_21 : decode cX10_begins 21 = .ok (.getfield 13, 3) := by decide +kernel
theorem dX10_begins_24 : decode cX10_begins 24 = .ok (.bipush 7, 2) := by decide +kernel
theorem dX10_begins_26 : decode cX10_begins 26 = .ok (.iconst 0, 1) := by decide +kernel
theorem dX10_begins_27 : decode cX10_begins 27 = .ok (.iastore, 1) := by decide +kernel
theorem dX10_begins_28 : decode cX10_begins 28 = .ok (.aload_n 0, 1) := by decide +kernel
theorem dX10_begins_29 : decode cX10_begins 29 = .ok (.getfield 13, 3) := by decide +kernel
theorem dX10_begins_32 : decode cX10_begins 32 = .ok (.bipush 8, 2) := by decide +kernel
theorem dX10_begins_34 : decode cX10_begins 34 = .ok (.iconst 2, 1) := by decide +kernel
theorem dX10_begins_35 : decode cX10_begins 35 = .ok (.iastore, 1) := by decide +kernel
theorem dX10_begins_36 : decode cX10_begins 36 = .ok (.aload_n 0, 1) := by decide +kernel
theorem dX10_begins_37 : decode cX10_begins 37 = .ok (.getfield 13, 3) := by decide +kernel
theorem dX10_begins_40 : decode cX10_begins 40 = .ok (.bipush 9, 2) := by decide +kernel
theorem dX10_begins_42 : decode cX10_begins 42 = .ok (.iconst 3, 1) := by decide +kernel
theorem dX10_begins_43 : decode cX10_begins 43 = .ok (.iastore, 1) := by decide +kernel
theorem dX10_begins_44 : decode cX10_begins 44 = .ok (.return_, 1) := by decide +kernel
theorem dX10_mayBegin_0 : decode cX10_mayBegin 0 = .ok (.aload_n 0, 1) := by decide +kernel
theorem dX10_mayBegin_1 : decode cX10_mayBegin 1 = .ok (.getfield 86, 3) := by decide +kernel
theorem dX10_mayBegin_4 : decode cX10_mayBegin 4 = .ok (.bipush 119, 2) := by decide +kernel
theorem dX10_mayBegin_6 : decode cX10_mayBegin 6 = .ok (.if_icmp .ne 13, 3) := by decide +kernel
theorem dX10_mayBegin_9 : decode cX10_mayBegin 9 = .ok (.iload_n 1, 1) := by decide +kernel
theorem dX10_mayBegin_10 : decode cX10_mayBegin 10 = .ok (.ifCond .ne 7, 3) := by decide +kernel
theorem dX10_mayBegin_13 : decode cX10_mayBegin 13 = .ok (.iconst 1, 1) := by decide +kernel
theorem dX10_mayBegin_14 : decode cX10_mayBegin 14 = .ok (.goto 4, 3) := by decide +kernel
theorem dX10_mayBegin_17 : decode cX10_mayBegin 17 = .ok (.iconst 0, 1) := by decide +kernel
theorem dX10_mayBegin_18 : decode cX10_mayBegin 18 = .ok (.ireturn, 1) := by decide +kernel
theorem dX10_mayBegin_19 : decode cX10_mayBegin 19 = .ok (.aload_n 0, 1) := by decide +kernel
theorem dX10_mayBegin_20 : decode cX10_mayBegin 20 = .ok (.getfield 86, 3) := by decide +kernel
theorem dX10_mayBegin_23 : decode cX10_mayBegin 23 = .ok (.bipush 112, 2) := by decide +kernel
theorem dX10_mayBegin_25 : decode cX10_mayBegin 25 = .ok (.if_icmp .eq 12, 3) := by decide +kernel
theorem dX10_mayBegin_28 : decode cX10_mayBegin 28 = .ok (.aload_n 0, 1) := by decide +kernel
theorem dX10_mayBegin_29 : decode cX10_mayBegin 29 = .ok (.getfield 86, 3) := by decide +kernel
theorem dX10_mayBegin_32 : decode cX10_mayBegin 32 = .ok (.bipush 100, 2) := by decide +kernel
theorem dX10_mayBegin_34 : decode cX10_mayBegin 34 = .ok (.if_icmp .ne 49, 3) := by decide +kernel
theorem dX10_mayBegin_37 : decode cX10_mayBegin 37 = .ok (.aload_n 0, 1) := by decide +kernel
theorem dX10_mayBegin_38 : decode cX10_mayBegin 38 = .ok (.getfield 86, 3) := by decide +kernel
theorem dX10_mayBegin_41 : decode cX10_mayBegin 41 = .ok (.bipush 112, 2) := by decide +kernel
theorem dX10_mayBegin_43 : decode cX10_mayBegin 43 = .ok (.if_icmp .ne 22, 3) := by decide +kernel
theorem dX10_mayBegin_46 : decode cX10_mayBegin 46 = .ok (.aload_n 0, 1) := by decide +kernel
theorem dX10_mayBegin_47 : decode cX10_mayBegin 47 = .ok (.getfield 13, 3) := by decide +kernel
theorem dX10_mayBegin_50 : decode cX10_mayBegin 50 = .ok (.bipush 6, 2) := by decide +kernel
theorem dX10_mayBegin_52 : decode cX10_mayBegin 52 = .ok (.iaload, 1) := by decide +kernel
theorem dX10_mayBegin_53 : decode cX10_mayBegin 53 = .ok (.iconst 5, 1) := by decide +kernel
theorem dX10_mayBegin_54 : decode cX10_mayBegin 54 = .ok (.if_icmp .ge 7, 3) := by decide +kernel
theorem dX10_mayBegin_57 : decode cX10_mayBegin 57 = .ok (.iconst 1, 1) := by decide +kernel
theorem dX10_mayBegin_58 : decode cX10_mayBegin 58 = .ok (.goto 24, 3) := by decide +kernel
theorem dX10_mayBegin_61 : decode cX10_mayBegin 61 = .ok (.iconst 0, 1) := by decide +kernel
theorem dX10_mayBegin_62 : decode cX10_mayBegin 62 = .ok (.goto 20, 3) := by decide +kernel
theorem dX10_mayBegin_65 : decode cX10_mayBegin 65 = .ok (.aload_n 0, 1) := by decide +kernel
theorem dX10_mayBegin_66 : decode cX10_mayBegin 66 = .ok (.getfield 13, 3) := by decide +kernel
theorem dX10_mayBegin_69 : decode cX10_mayBegin 69 = .ok (.bipush 7, 2) := by decide +kernel
theorem dX10_mayBegin_71 : decode cX10_mayBegin 71 = .ok (.iaload, 1) := by decide +kernel
theorem dX10_mayBegin_72 : decode cX10_mayBegin 72 = .ok (.bipush 8, 2) := by decide +kernel
theorem dX10_mayBegin_74 : decode cX10_mayBegin 74 = .ok (.if_icmp .ge 7, 3) := by decide +kernel
theorem dX10_mayBegin_77 : decode cX10_mayBegin 77 = .ok (.iconst 1, 1) := by decide +kernel
theorem dX10_mayBegin_78 : decode cX10_mayBegin 78 = .ok (.goto 4, 3) := by decide +kernel
theorem dX10_mayBegin_81 : decode cX10_mayBegin 81 = .ok (.iconst 0, 1) := by decide +kernel
theorem dX10_mayBegin_82 : decode cX10_mayBegin 82 = .ok (.ireturn, 1) := by decide +kernel
theorem dX10_mayBegin_83 : decode cX10_mayBegin 83 = .ok (.aload_n 0, 1) := by decide +kernel
theorem dX10_mayBegin_84 : decode cX10_mayBegin 84 = .ok (.getfield 107, 3) := by decide +kernel
theorem dX10_mayBegin_87 : decode cX10_mayBegin 87 = .ok (.aload_n 0, 1) := by decide +kernel
theorem dX10_mayBegin_88 : decode cX10_mayBegin 88 = .ok (.getfield 86, 3) := by decide +kernel
theorem dX10_mayBegin_91 : decode cX10_mayBegin 91 = .ok (.bipush 103, 2) := by decide +kernel
theorem dX10_mayBegin_93 : decode cX10_mayBegin 93 = .ok (.if_icmp .ne 7, 3) := by decide +kernel
theorem dX10_mayBegin_96 : decode cX10_mayBegin 96 = .ok (.iconst 1, 1) := by decide +kernel
theorem dX10_mayBegin_97 : decode cX10_mayBegin 97 = .ok (.goto 4, 3) := by decide +kernel
theorem dX10_mayBegin_100 : decode cX10_mayBegin 100 = .ok (.iconst 2, 1) := by decide +kernel
theorem dX10_mayBegin_101 : decode cX10_mayBegin 101 = .ok (.iand, 1) := by decide +kernel
theorem dX10_mayBegin_102 : decode cX10_mayBegin 102 = .ok (.ifCond .ne 7, 3) := by decide +kernel
theorem dX10_mayBegin_105 : decode cX10_mayBegin 105 = .ok (.iconst 1, 1) := by decide +kernel
theorem dX10_mayBegin_106 : decode cX10_mayBegin 106 = .ok (.goto 4, 3) := by decide +kernel
theorem dX10_mayBegin_109 : decode cX10_mayBegin 109 = .ok (.iconst 0, 1) := by decide +kernel
theorem dX10_mayBegin_110 : decode cX10_mayBegin 110 = .ok (.ireturn, 1) := by decide +kernel
theorem dX10_readsItem_0 : decode cX10_readsItem 0 = .ok (.aload_n 0, 1) := by decide +kernel
theorem dX10_readsItem_1 : decode cX10_readsItem 1 = .ok (.getfield 13, 3) := by decide +kernel
theorem dX10_readsItem_4 : decode cX10_readsItem 4 = .ok (.iconst 5, 1) := by decide +kernel
theorem dX10_readsItem_5 : decode cX10_readsItem 5 = .ok (.iaload, 1) := by decide +kernel
theorem dX10_readsItem_6 : decode cX10_readsItem 6 = .ok (.iconst 1, 1) := by decide +kernel
theorem dX10_readsItem_7 : decode cX10_readsItem 7 = .ok (.isub, 1) := by decide +kernel
theorem dX10_readsItem_8 : decode cX10_readsItem 8 = .ok (.istore_n 2, 1) := by decide +kernel
theorem dX10_readsItem_9 : decode cX10_readsItem 9 = .ok (.iload_n 1, 1) := by decide +kernel
theorem dX10_readsItem_10 : decode cX10_readsItem 10 = .ok (.bipush 119, 2) := by decide +kernel
theorem dX10_readsItem_12 : decode cX10_readsItem 12 = .ok (.if_icmp .ne 19, 3) := by decide +kernel
theorem dX10_readsItem_15 : decode cX10_readsItem 15 = .ok (.aload_n 0, 1) := by decide +kernel
theorem dX10_readsItem_16 : decode cX10_readsItem 16 = .ok (.getfield 13, 3) := by decide +kernel
theorem dX10_readsItem_19 : decode cX10_readsItem 19 = .ok (.iconst 5, 1) := by decide +kernel
theorem dX10_readsItem_20 : decode cX10_readsItem 20 = .ok (.aload_n 0, 1) := by decide +kernel
theorem dX10_readsItem_21 : decode cX10_readsItem 21 = .ok (.iconst 2, 1) := by decide +kernel
theorem dX10_readsItem_22 : decode cX10_readsItem 22 = .ok (.bipush 6, 2) := by decide +kernel
theorem dX10_readsItem_24 : decode cX10_readsItem 24 = .ok (.invokevirtual 110, 3) := by decide +kernel
theorem dX10_readsItem_27 : decode cX10_readsItem 27 = .ok (.iastore, 1) := by decide +kernel
theorem dX10_readsItem_28 : decode cX10_readsItem 28 = .ok (.goto 196, 3) := by decide +kernel
theorem dX10_readsItem_31 : decode cX10_readsItem 31 = .ok (.iload_n 1, 1) := by decide +kernel
theorem dX10_readsItem_32 : decode cX10_readsItem 32 = .ok (.bipush 112, 2) := by decide +kernel
theorem dX10_readsItem_34 : decode cX10_readsItem 34 = .ok (.if_icmp .ne 37, 3) := by decide +kernel
theorem dX10_readsItem_37 : decode cX10_readsItem 37 = .ok (.aload_n 0, 1) := by decide +kernel
theorem dX10_readsItem_38 : decode cX10_readsItem 38 = .ok (.getfield 16, 3) := by decide +kernel
theorem dX10_readsItem_41 : decode cX10_readsItem 41 = .ok (.iconst 5, 1) := by decide +kernel
theorem dX10_readsItem_42 : decode cX10_readsItem 42 = .ok (.aload_n 0, 1) := by decide +kernel
theorem dX10_readsItem_43 : decode cX10_readsItem 43 = .ok (.getfield 13, 3) := by decide +kernel
theorem dX10_readsItem_46 : decode cX10_readsItem 46 = .ok (.bipush 6, 2) := by decide +kernel
theorem dX10_readsItem_48 : decode cX10_readsItem 48 = .ok (.iaload, 1) := by decide +kernel
theorem dX10_readsItem_49 : decode cX10_readsItem 49 = .ok (.iadd, 1) := by decide +kernel
theorem dX10_readsItem_50 : decode cX10_readsItem 50 = .ok (.aload_n 0, 1) := by decide +kernel
theorem dX10_readsItem_51 : decode cX10_readsItem 51 = .ok (.iconst 0, 1) := by decide +kernel
theorem dX10_readsItem_52 : decode cX10_readsItem 52 = .ok (.iload_n 2, 1) := by decide +kernel
theorem dX10_readsItem_53 : decode cX10_readsItem 53 = .ok (.invokevirtual 110, 3) := by decide +kernel
theorem dX10_readsItem_56 : decode cX10_readsItem 56 = .ok (.iastore, 1) := by decide +kernel
theorem dX10_readsItem_57 : decode cX10_readsItem 57 = .ok (.aload_n 0, 1) := by decide +kernel
theorem dX10_readsItem_58 : decode cX10_readsItem 58 = .ok (.getfield 13, 3) := by decide +kernel
theorem dX10_readsItem_61 : decode cX10_readsItem 61 = .ok (.bipush 6, 2) := by decide +kernel
theorem dX10_readsItem_63 : decode cX10_readsItem 63 = .ok (.dup2, 1) := by decide +kernel
theorem dX10_readsItem_64 : decode cX10_readsItem 64 = .ok (.iaload, 1) := by decide +kernel
theorem dX10_readsItem_65 : decode cX10_readsItem 65 = .ok (.iconst 1, 1) := by decide +kernel
theorem dX10_readsItem_66 : decode cX10_readsItem 66 = .ok (.iadd, 1) := by decide +kernel
theorem dX10_readsItem_67 : decode cX10_readsItem 67 = .ok (.iastore, 1) := by decide +kernel
theorem dX10_readsItem_68 : decode cX10_readsItem 68 = .ok (.goto 156, 3) := by decide +kernel
theorem dX10_readsItem_71 : decode cX10_readsItem 71 = .ok (.iload_n 1, 1) := by decide +kernel
theorem dX10_readsItem_72 : decode cX10_readsItem 72 = .ok (.bipush 100, 2) := by decide +kernel
theorem dX10_readsItem_74 : decode cX10_readsItem 74 = .ok (.if_icmp .ne 93, 3) := by decide +kernel
theorem dX10_readsItem_77 : decode cX10_readsItem 77 = .ok (.aload_n 0, 1) := by decide +kernel
theorem dX10_readsItem_78 : decode cX10_readsItem 78 = .ok (.getfield 13, 3) := by decide +kernel
theorem dX10_readsItem_81 : decode cX10_readsItem 81 = .ok (.bipush 7, 2) := by decide +kernel
theorem dX10_readsItem_83 : decode cX10_readsItem 83 = .ok (.iaload, 1) := by decide +kernel
theorem dX10_readsItem_84 : decode cX10_readsItem 84 = .ok (.istore_n 3, 1) := by decide +kernel
theorem dX10_readsItem_85 : decode cX10_readsItem 85 = .ok (.aload_n 0, 1) := by decide +kernel
theorem dX10_readsItem_86 : decode cX10_readsItem 86 = .ok (.getfield 19, 3) := by decide +kernel
theorem dX10_readsItem_89 : decode cX10_readsItem 89 = .ok (.iload_n 3, 1) := by decide +kernel
theorem dX10_readsItem_90 : decode cX10_readsItem 90 = .ok (.aload_n 0, 1) := by decide +kernel
theorem dX10_readsItem_91 : decode cX10_readsItem 91 = .ok (.iconst 0, 1) := by decide +kernel
theorem dX10_readsItem_92 : decode cX10_readsItem 92 = .ok (.aload_n 0, 1) := by decide +kernel
theorem dX10_readsItem_93 : decode cX10_readsItem 93 = .ok (.getfield 13, 3) := by decide +kernel
theorem dX10_readsItem_96 : decode cX10_readsItem 96 = .ok (.bipush 6, 2) := by decide +kernel
theorem dX10_readsItem_98 : decode cX10_readsItem 98 = .ok (.iaload, 1) := by decide +kernel
theorem dX10_readsItem_99 : decode cX10_readsItem 99 = .ok (.iconst 1, 1) := by decide +kernel
theorem dX10_readsItem_100 : decode cX10_readsItem 100 = .ok (.isub, 1) := by decide +kernel
theorem dX10_readsItem_101 : decode cX10_readsItem 101 = .ok (.invokevirtual 110, 3) := by decide +kernel
theorem dX10_readsItem_104 : decode cX10_readsItem 104 = .ok (.iastore, 1) := by decide +kernel
theorem dX10_readsItem_105 : decode cX10_readsItem 105 = .ok (.aload_n 0, 1) := by decide +kernel
theorem dX10_readsItem_106 : decode cX10_readsItem 106 = .ok (.getfield 22, 3) := by decide +kernel
theorem dX10_readsItem_109 : decode cX10_readsItem 109 = .ok (.bipush 8, 2) := by decide +kernel
theorem dX10_readsItem_111 : decode cX10_readsItem 111 = .ok (.iload_n 3, 1) := by decide +kernel
theorem dX10_readsItem_112 : decode cX10_readsItem 112 = .ok (.iadd, 1) := by decide +kernel
theorem dX10_readsItem_113 : decode cX10_readsItem 113 = .ok (.aload_n 0, 1) := by decide +kernel
theorem dX10_readsItem_114 : decode cX10_readsItem 114 = .ok (.iconst 0, 1) := by decide +kernel
theorem dX10_readsItem_115 : decode cX10_readsItem 115 = .ok (.iload_n 2, 1) := by decide +kernel
theorem dX10_readsItem_116 : decode cX10_readsItem 116 = .ok (.invokevirtual 110, 3) := by decide +kernel
theorem dX10_readsItem_119 : decode cX10_readsItem 119 = .ok (.iastore, 1) := by decide +kernel
theorem dX10_readsItem_120 : decode cX10_readsItem 120 = .ok (.aload_n 0, 1) := by decide +kernel
theorem dX10_readsItem_121 : decode cX10_readsItem 121 = .ok (.getfield 25, 3) := by decide +kernel
theorem dX10_readsItem_124 : decode cX10_readsItem 124 = .ok (.bipush 8, 2) := by decide +kernel
theorem dX10_readsItem_126 : decode cX10_readsItem 126 = .ok (.iload_n 3, 1) := by decide +kernel
theorem dX10_readsItem_127 : decode cX10_readsItem 127 = .ok (.iadd, 1) := by decide +kernel
theorem dX10_readsItem_128 : decode cX10_readsItem 128 = .ok (.aload_n 0, 1) := by decide +kernel
theorem dX10_readsItem_129 : decode cX10_readsItem 129 = .ok (.iconst 0, 1) := by decide +kernel
theorem dX10_readsItem_130 : decode cX10_readsItem 130 = .ok (.sipush 239, 3) := by decide +kernel
theorem dX10_readsItem_133 : decode cX10_readsItem 133 = .ok (.invokevirtual 110, 3) := by decide +kernel
theorem dX10_readsItem_136 : decode cX10_readsItem 136 = .ok (.iastore, 1) := by decide +kernel
theorem dX10_readsItem_137 : decode cX10_readsItem 137 = .ok (.aload_n 0, 1) := by decide +kernel
theorem dX10_readsItem_138 : decode cX10_readsItem 138 = .ok (.getfield 28, 3) := by decide +kernel
theorem dX10_readsItem_141 : decode cX10_readsItem 141 = .ok (.bipush 8, 2) := by decide +kernel
theorem dX10_readsItem_143 : decode cX10_readsItem 143 = .ok (.iload_n 3, 1) := by decide +kernel
theorem dX10_readsItem_144 : decode cX10_readsItem 144 = .ok (.iadd, 1) := by decide +kernel
theorem dX10_readsItem_145 : decode cX10_readsItem 145 = .ok (.aload_n 0, 1) := by decide +kernel
theorem dX10_readsItem_146 : decode cX10_readsItem 146 = .ok (.iconst 1, 1) := by decide +kernel
theorem dX10_readsItem_147 : decode cX10_readsItem 147 = .ok (.bipush 60, 2) := by decide +kernel
theorem dX10_readsItem_149 : decode cX10_readsItem 149 = .ok (.invokevirtual 110, 3) := by decide +kernel
theorem dX10_readsItem_152 : decode cX10_readsItem 152 = .ok (.iastore, 1) := by decide +kernel
theorem dX10_readsItem_153 : decode cX10_readsItem 153 = .ok (.aload_n 0, 1) := by decide +kernel
theorem dX10_readsItem_154 : decode cX10_readsItem 154 = .ok (.getfield 13, 3) := by decide +kernel
theorem dX10_readsItem_157 : decode cX10_readsItem 157 = .ok (.bipush 7, 2) := by decide +kernel
theorem dX10_readsItem_159 : decode cX10_readsItem 159 = .ok (.dup2, 1) := by decide +kernel
theorem dX10_readsItem_160 : decode cX10_readsItem 160 = .ok (.iaload, 1) := by decide +kernel
theorem dX10_readsItem_161 : decode cX10_readsItem 161 = .ok (.iconst 1, 1) := by decide +kernel
theorem dX10_readsItem_162 : decode cX10_readsItem 162 = .ok (.iadd, 1) := by decide +kernel
theorem dX10_readsItem_163 : decode cX10_readsItem 163 = .ok (.iastore, 1) := by decide +kernel
theorem dX10_readsItem_164 : decode cX10_readsItem 164 = .ok (.goto 60, 3) := by decide +kernel
theorem dX10_readsItem_167 : decode cX10_readsItem 167 = .ok (.iload_n 1, 1) := by decide +kernel
theorem dX10_readsItem_168 : decode cX10_readsItem 168 = .ok (.bipush 103, 2) := by decide +kernel
theorem dX10_readsItem_170 : decode cX10_readsItem 170 = .ok (.if_icmp .ne 30, 3) := by decide +kernel
theorem dX10_readsItem_173 : decode cX10_readsItem 173 = .ok (.aload_n 0, 1) := by decide +kernel
theorem dX10_readsItem_174 : decode cX10_readsItem 174 = .ok (.getfield 13, 3) := by decide +kernel
theorem dX10_readsItem_177 : decode cX10_readsItem 177 = .ok (.bipush 8, 2) := by decide +kernel
theorem dX10_readsItem_179 : decode cX10_readsItem 179 = .ok (.aload_n 0, 1) := by decide +kernel
theorem dX10_readsItem_180 : decode cX10_readsItem 180 = .ok (.iconst 1, 1) := by decide +kernel
theorem dX10_readsItem_181 : decode cX10_readsItem 181 = .ok (.bipush 9, 2) := by decide +kernel
theorem dX10_readsItem_183 : decode cX10_readsItem 183 = .ok (.invokevirtual 110, 3) := by decide +kernel
theorem dX10_readsItem_186 : decode cX10_readsItem 186 = .ok (.iastore, 1) := by decide +kernel
theorem dX10_readsItem_187 : decode cX10_readsItem 187 = .ok (.aload_n 0, 1) := by decide +kernel
theorem dX10_readsItem_188 : decode cX10_readsItem 188 = .ok (.dup, 1) := by decide +kernel
theorem dX10_readsItem_189 : decode cX10_readsItem 189 = .ok (.getfield 107, 3) := by decide +kernel
theorem dX10_readsItem_192 : decode cX10_readsItem 192 = .ok (.iconst 1, 1) := by decide +kernel
theorem dX10_readsItem_193 : decode cX10_readsItem 193 = .ok (.ior, 1) := by decide +kernel
theorem dX10_readsItem_194 : decode cX10_readsItem 194 = .ok (.putfield 107, 3) := by decide +kernel
theorem dX10_readsItem_197 : decode cX10_readsItem 197 = .ok (.goto 27, 3) := by decide +kernel
theorem dX10_readsItem_200 : decode cX10_readsItem 200 = .ok (.aload_n 0, 1) := by decide +kernel
theorem dX10_readsItem_201 : decode cX10_readsItem 201 = .ok (.getfield 13, 3) := by decide +kernel
theorem dX10_readsItem_204 : decode cX10_readsItem 204 = .ok (.bipush 9, 2) := by decide +kernel
theorem dX10_readsItem_206 : decode cX10_readsItem 206 = .ok (.aload_n 0, 1) := by decide +kernel
theorem dX10_readsItem_207 : decode cX10_readsItem 207 = .ok (.iconst 0, 1) := by decide +kernel
theorem dX10_readsItem_208 : decode cX10_readsItem 208 = .ok (.bipush 9, 2) := by decide +kernel
theorem dX10_readsItem_210 : decode cX10_readsItem 210 = .ok (.invokevirtual 110, 3) := by decide +kernel
theorem dX10_readsItem_213 : decode cX10_readsItem 213 = .ok (.iastore, 1) := by decide +kernel
theorem dX10_readsItem_214 : decode cX10_readsItem 214 = .ok (.aload_n 0, 1) := by decide +kernel
theorem dX10_readsItem_215 : decode cX10_readsItem 215 = .ok (.dup, 1) := by decide +kernel
theorem dX10_readsItem_216 : decode cX10_readsItem 216 = .ok (.getfield 107, 3) := by decide +kernel
theorem dX10_readsItem_219 : decode cX10_readsItem 219 = .ok (.iconst 2, 1) := by decide +kernel
theorem dX10_readsItem_220 : decode cX10_readsItem 220 = .ok (.ior, 1) := by decide +kernel
theorem dX10_readsItem_221 : decode cX10_readsItem 221 = .ok (.putfield 107, 3) := by decide +kernel
theorem dX10_readsItem_224 : decode cX10_readsItem 224 = .ok (.return_, 1) := by decide +kernel
theorem dX10_town_0 : decode cX10_town 0 = .ok (.aload_n 0, 1) := by decide +kernel
theorem dX10_town_1 : decode cX10_town 1 = .ok (.iconst 0, 1) := by decide +kernel
theorem dX10_town_2 : decode cX10_town 2 = .ok (.putfield 62, 3) := by decide +kernel
theorem dX10_town_5 : decode cX10_town 5 = .ok (.aload_n 0, 1) := by decide +kernel
theorem dX10_town_6 : decode cX10_town 6 = .ok (.iconst (-1), 1) := by decide +kernel
theorem dX10_town_7 : decode cX10_town 7 = .ok (.putfield 93, 3) := by decide +kernel
theorem dX10_town_10 : decode cX10_town 10 = .ok (.aload_n 0, 1) := by decide +kernel
theorem dX10_town_11 : decode cX10_town 11 = .ok (.iconst 0, 1) := by decide +kernel
theorem dX10_town_12 : decode cX10_town 12 = .ok (.putfield 73, 3) := by decide +kernel
theorem dX10_town_15 : decode cX10_town 15 = .ok (.aload_n 0, 1) := by decide +kernel
theorem dX10_town_16 : decode cX10_town 16 = .ok (.invokevirtual 56, 3) := by decide +kernel
theorem dX10_town_19 : decode cX10_town 19 = .ok (.iconst 0, 1) := by decide +kernel
theorem dX10_town_20 : decode cX10_town 20 = .ok (.istore_n 1, 1) := by decide +kernel
theorem dX10_town_21 : decode cX10_town 21 = .ok (.aload_n 0, 1) := by decide +kernel
theorem dX10_town_22 : decode cX10_town 22 = .ok (.invokevirtual 100, 3) := by decide +kernel
theorem dX10_town_25 : decode cX10_town 25 = .ok (.aload_n 0, 1) := by decide +kernel
theorem dX10_town_26 : decode cX10_town 26 = .ok (.invokevirtual 96, 3) := by decide +kernel
theorem dX10_town_29 : decode cX10_town 29 = .ok (.ifCond .eq 72, 3) := by decide +kernel
theorem dX10_town_32 : decode cX10_town 32 = .ok (.aload_n 0, 1) := by decide +kernel
theorem dX10_town_33 : decode cX10_town 33 = .ok (.getfield 83, 3) := by decide +kernel
theorem dX10_town_36 : decode cX10_town 36 = .ok (.ifCond .eq 65, 3) := by decide +kernel
theorem dX10_town_39 : decode cX10_town 39 = .ok (.aload_n 0, 1) := by decide +kernel
theorem dX10_town_40 : decode cX10_town 40 = .ok (.aload_n 0, 1) := by decide +kernel
theorem dX10_town_41 : decode cX10_town 41 = .ok (.getfield 83, 3) := by decide +kernel
theorem dX10_town_44 : decode cX10_town 44 = .ok (.iconst 1, 1) := by decide +kernel
theorem dX10_town_45 : decode cX10_town 45 = .ok (.if_icmp .ne 15, 3) := by decide +kernel
theorem dX10_town_48 : decode cX10_town 48 = .ok (.aload_n 0, 1) := by decide +kernel
theorem dX10_town_49 : decode cX10_town 49 = .ok (.iload_n 1, 1) := by decide +kernel
theorem dX10_town_50 : decode cX10_town 50 = .ok (.invokevirtual 114, 3) := by decide +kernel
theorem dX10_town_53 : decode cX10_town 53 = .ok (.ifCond .eq 7, 3) := by decide +kernel
theorem dX10_town_56 : decode cX10_town 56 = .ok (.iconst 1, 1) := by decide +kernel
theorem dX10_town_57 : decode cX10_town 57 = .ok (.goto 4, 3) := by decide +kernel
theorem dX10_town_60 : decode cX10_town 60 = .ok (.iconst 0, 1) := by decide +kernel
theorem dX10_town_61 : decode cX10_town 61 = .ok (.invokevirtual 103, 3) := by decide +kernel
theorem dX10_town_64 : decode cX10_town 64 = .ok (.istore_n 2, 1) := by decide +kernel
theorem dX10_town_65 : decode cX10_town 65 = .ok (.aload_n 0, 1) := by decide +kernel
theorem dX10_town_66 : decode cX10_town 66 = .ok (.invokevirtual 96, 3) := by decide +kernel
theorem dX10_town_69 : decode cX10_town 69 = .ok (.ifCond .eq 8, 3) := by decide +kernel
theorem dX10_town_72 : decode cX10_town 72 = .ok (.aload_n 0, 1) := by decide +kernel
theorem dX10_town_73 : decode cX10_town 73 = .ok (.iload_n 2, 1) := by decide +kernel
theorem dX10_town_74 : decode cX10_town 74 = .ok (.invokevirtual 117, 3) := by decide +kernel
theorem dX10_town_77 : decode cX10_town 77 = .ok (.aload_n 0, 1) := by decide +kernel
theorem dX10_town_78 : decode cX10_town 78 = .ok (.aload_n 0, 1) := by decide +kernel
theorem dX10_town_79 : decode cX10_town 79 = .ok (.getfield 83, 3) := by decide +kernel
theorem dX10_town_82 : decode cX10_town 82 = .ok (.iconst 3, 1) := by decide +kernel
theorem dX10_town_83 : decode cX10_town 83 = .ok (.if_icmp .ne 7, 3) := by decide +kernel
theorem dX10_town_86 : decode cX10_town 86 = .ok (.iconst 1, 1) := by decide +kernel
theorem dX10_town_87 : decode cX10_town 87 = .ok (.goto 4, 3) := by decide +kernel
theorem dX10_town_90 : decode cX10_town 90 = .ok (.iconst 0, 1) := by decide +kernel
theorem dX10_town_91 : decode cX10_town 91 = .ok (.invokevirtual 103, 3) := by decide +kernel
theorem dX10_town_94 : decode cX10_town 94 = .ok (.pop, 1) := by decide +kernel
theorem dX10_town_95 : decode cX10_town 95 = .ok (.iinc 1 1, 3) := by decide +kernel
theorem dX10_town_98 : decode cX10_town 98 = .ok (.goto (-73), 3) := by decide +kernel
theorem dX10_town_101 : decode cX10_town 101 = .ok (.aload_n 0, 1) := by decide +kernel
theorem dX10_town_102 : decode cX10_town 102 = .ok (.invokevirtual 96, 3) := by decide +kernel
theorem dX10_town_105 : decode cX10_town 105 = .ok (.ifCond .ne 11, 3) := by decide +kernel
theorem dX10_town_108 : decode cX10_town 108 = .ok (.bipush (-10), 2) := by decide +kernel
theorem dX10_town_110 : decode cX10_town 110 = .ok (.aload_n 0, 1) := by decide +kernel
theorem dX10_town_111 : decode cX10_town 111 = .ok (.getfield 93, 3) := by decide +kernel
theorem dX10_town_114 : decode cX10_town 114 = .ok (.isub, 1) := by decide +kernel
theorem dX10_town_115 : decode cX10_town 115 = .ok (.ireturn, 1) := by decide +kernel
theorem dX10_town_116 : decode cX10_town 116 = .ok (.aload_n 0, 1) := by decide +kernel
theorem dX10_town_117 : decode cX10_town 117 = .ok (.invokevirtual 59, 3) := by decide +kernel
theorem dX10_town_120 : decode cX10_town 120 = .ok (.iload_n 1, 1) := by decide +kernel
theorem dX10_town_121 : decode cX10_town 121 = .ok (.ireturn, 1) := by decide +kernel
theorem dX10_settles_0 : decode cX10_settles 0 = .ok (.iconst 0, 1) := by decide +kernel
theorem dX10_settles_1 : decode cX10_settles 1 = .ok (.istore_n 1, 1) := by decide +kernel
theorem dX10_settles_2 : decode cX10_settles 2 = .ok (.iload_n 1, 1) := by decide +kernel
theorem dX10_settles_3 : decode cX10_settles 3 = .ok (.iconst 5, 1) := by decide +kernel
theorem dX10_settles_4 : decode cX10_settles 4 = .ok (.if_icmp .ge 23, 3) := by decide +kernel
theorem dX10_settles_7 : decode cX10_settles 7 = .ok (.aload_n 0, 1) := by decide +kernel
theorem dX10_settles_8 : decode cX10_settles 8 = .ok (.getfield 13, 3) := by decide +kernel
theorem dX10_settles_11 : decode cX10_settles 11 = .ok (.iload_n 1, 1) := by decide +kernel
theorem dX10_settles_12 : decode cX10_settles 12 = .ok (.aload_n 0, 1) := by decide +kernel
theorem dX10_settles_13 : decode cX10_settles 13 = .ok (.getfield 13, 3) := by decide +kernel
theorem dX10_settles_16 : decode cX10_settles 16 = .ok (.iconst 5, 1) := by decide +kernel
theorem dX10_settles_17 : decode cX10_settles 17 = .ok (.iload_n 1, 1) := by decide +kernel
theorem dX10_settles_18 : decode cX10_settles 18 = .ok (.iadd, 1) := by decide +kernel
theorem dX10_settles_19 : decode cX10_settles 19 = .ok (.iaload, 1) := by decide +kernel
theorem dX10_settles_20 : decode cX10_settles 20 = .ok (.iastore, 1) := by decide +kernel
theorem dX10_settles_21 : decode cX10_settles 21 = .ok (.iinc 1 1, 3) := by decide +kernel
theorem dX10_settles_24 : decode cX10_settles 24 = .ok (.goto (-22), 3) := by decide +kernel
theorem dX10_settles_27 : decode cX10_settles 27 = .ok (.iconst 0, 1) := by decide +kernel
theorem dX10_settles_28 : decode cX10_settles 28 = .ok (.istore_n 1, 1) := by decide +kernel
theorem dX10_settles_29 : decode cX10_settles 29 = .ok (.iload_n 1, 1) := by decide +kernel
theorem dX10_settles_30 : decode cX10_settles 30 = .ok (.bipush 25, 2) := by decide +kernel
theorem dX10_settles_32 : decode cX10_settles 32 = .ok (.if_icmp .ge 16, 3) := by decide +kernel
theorem dX10_settles_35 : decode cX10_settles 35 = .ok (.aload_n 0, 1) := by decide +kernel
theorem dX10_settles_36 : decode cX10_settles 36 = .ok (.getfield 31, 3) := by decide +kernel
theorem dX10_settles_39 : decode cX10_settles 39 = .ok (.iload_n 1, 1) := by decide +kernel
theorem dX10_settles_40 : decode cX10_settles 40 = .ok (.iconst 0, 1) := by decide +kernel
theorem dX10_settles_41 : decode cX10_settles 41 = .ok (.iastore, 1) := by decide +kernel
theorem dX10_settles_42 : decode cX10_settles 42 = .ok (.iinc 1 1, 3) := by decide +kernel
theorem dX10_settles_45 : decode cX10_settles 45 = .ok (.goto (-16), 3) := by decide +kernel
theorem dX10_settles_48 : decode cX10_settles 48 = .ok (.iconst 0, 1) := by decide +kernel
theorem dX10_settles_49 : decode cX10_settles 49 = .ok (.istore_n 1, 1) := by decide +kernel
theorem dX10_settles_50 : decode cX10_settles 50 = .ok (.iload_n 1, 1) := by decide +kernel
theorem dX10_settles_51 : decode cX10_settles 51 = .ok (.iconst 5, 1) := by decide +kernel
theorem dX10_settles_52 : decode cX10_settles 52 = .ok (.if_icmp .ge 51, 3) := by decide +kernel
theorem dX10_settles_55 : decode cX10_settles 55 = .ok (.aload_n 0, 1) := by decide +kernel
theorem dX10_settles_56 : decode cX10_settles 56 = .ok (.getfield 16, 3) := by decide +kernel
theorem dX10_settles_59 : decode cX10_settles 59 = .ok (.iload_n 1, 1) := by decide +kernel
theorem dX10_settles_60 : decode cX10_settles 60 = .ok (.aload_n 0, 1) := by decide +kernel
theorem dX10_settles_61 : decode cX10_settles 61 = .ok (.getfield 16, 3) := by decide +kernel
theorem dX10_settles_64 : decode cX10_settles 64 = .ok (.iconst 5, 1) := by decide +kernel
theorem dX10_settles_65 : decode cX10_settles 65 = .ok (.iload_n 1, 1) := by decide +kernel
theorem dX10_settles_66 : decode cX10_settles 66 = .ok (.iadd, 1) := by decide +kernel
theorem dX10_settles_67 : decode cX10_settles 67 = .ok (.iaload, 1) := by decide +kernel
theorem dX10_settles_68 : decode cX10_settles 68 = .ok (.iastore, 1) := by decide +kernel
theorem dX10_settles_69 : decode cX10_settles 69 = .ok (.aload_n 0, 1) := by decide +kernel
theorem dX10_settles_70 : decode cX10_settles 70 = .ok (.getfield 31, 3) := by decide +kernel
theorem dX10_settles_73 : decode cX10_settles 73 = .ok (.iconst 0, 1) := by decide +kernel
theorem dX10_settles_74 : decode cX10_settles 74 = .ok (.iload_n 1, 1) := by decide +kernel
theorem dX10_settles_75 : decode cX10_settles 75 = .ok (.iadd, 1) := by decide +kernel
theorem dX10_settles_76 : decode cX10_settles 76 = .ok (.iload_n 1, 1) := by decide +kernel
theorem dX10_settles_77 : decode cX10_settles 77 = .ok (.aload_n 0, 1) := by decide +kernel
theorem dX10_settles_78 : decode cX10_settles 78 = .ok (.getfield 13, 3) := by decide +kernel
theorem dX10_settles_81 : decode cX10_settles 81 = .ok (.iconst 1, 1) := by decide +kernel
theorem dX10_settles_82 : decode cX10_settles 82 = .ok (.iaload, 1) := by decide +kernel
theorem dX10_settles_83 : decode cX10_settles 83 = .ok (.if_icmp .ge 12, 3) := by decide +kernel
theorem dX10_settles_86 : decode cX10_settles 86 = .ok (.aload_n 0, 1) := by decide +kernel
theorem dX10_settles_87 : decode cX10_settles 87 = .ok (.getfield 16, 3) := by decide +kernel
theorem dX10_settles_90 : decode cX10_settles 90 = .ok (.iload_n 1, 1) := by decide +kernel
theorem dX10_settles_91 : decode cX10_settles 91 = .ok (.iaload, 1) := by decide +kernel
theorem dX10_settles_92 : decode cX10_settles 92 = .ok (.goto 4, 3) := by decide +kernel
theorem dX10_settles_95 : decode cX10_settles 95 = .ok (.iconst 0, 1) := by decide +kernel
theorem dX10_settles_96 : decode cX10_settles 96 = .ok (.iastore, 1) := by decide +kernel
theorem dX10_settles_97 : decode cX10_settles 97 = .ok (.iinc 1 1, 3) := by decide +kernel
theorem dX10_settles_100 : decode cX10_settles 100 = .ok (.goto (-50), 3) := by decide +kernel
theorem dX10_settles_103 : decode cX10_settles 103 = .ok (.iconst 0, 1) := by decide +kernel
theorem dX10_settles_104 : decode cX10_settles 104 = .ok (.istore_n 1, 1) := by decide +kernel
theorem dX10_settles_105 : decode cX10_settles 105 = .ok (.iload_n 1, 1) := by decide +kernel
theorem dX10_settles_106 : decode cX10_settles 106 = .ok (.bipush 8, 2) := by decide +kernel
theorem dX10_settles_108 : decode cX10_settles 108 = .ok (.if_icmp .ge 83, 3) := by decide +kernel
theorem dX10_settles_111 : decode cX10_settles 111 = .ok (.aload_n 0, 1) := by decide +kernel
theorem dX10_settles_112 : decode cX10_settles 112 = .ok (.getfield 22, 3) := by decide +kernel
theorem dX10_settles_115 : decode cX10_settles 115 = .ok (.iload_n 1, 1) := by decide +kernel
theorem dX10_settles_116 : decode cX10_settles 116 = .ok (.aload_n 0, 1) := by decide +kernel
theorem dX10_settles_117 : decode cX10_settles 117 = .ok (.getfield 22, 3) := by decide +kernel
theorem dX10_settles_120 : decode cX10_settles 120 = .ok (.bipush 8, 2) := by decide +kernel
theorem dX10_settles_122 : decode cX10_settles 122 = .ok (.iload_n 1, 1) := by decide +kernel
theorem dX10_settles_123 : decode cX10_settles 123 = .ok (.iadd, 1) := by decide +kernel
theorem dX10_settles_124 : decode cX10_settles 124 = .ok (.iaload, 1) := by decide +kernel
theorem dX10_settles_125 : decode cX10_settles 125 = .ok (.iastore, 1) := by decide +kernel
theorem dX10_settles_126 : decode cX10_settles 126 = .ok (.aload_n 0, 1) := by decide +kernel
theorem dX10_settles_127 : decode cX10_settles 127 = .ok (.getfield 25, 3) := by decide +kernel
theorem dX10_settles_130 : decode cX10_settles 130 = .ok (.iload_n 1, 1) := by decide +kernel
theorem dX10_settles_131 : decode cX10_settles 131 = .ok (.aload_n 0, 1) := by decide +kernel
theorem dX10_settles_132 : decode cX10_settles 132 = .ok (.getfield 25, 3) := by decide +kernel
theorem dX10_settles_135 : decode cX10_settles 135 = .ok (.bipush 8, 2) := by decide +kernel
theorem dX10_settles_137 : decode cX10_settles 137 = .ok (.iload_n 1, 1) := by decide +kernel
theorem dX10_settles_138 : decode cX10_settles 138 = .ok (.iadd, 1) := by decide +kernel
theorem dX10_settles_139 : decode cX10_settles 139 = .ok (.iaload, 1) := by decide +kernel
theorem dX10_settles_140 : decode cX10_settles 140 = .ok (.iastore, 1) := by decide +kernel
theorem dX10_settles_141 : decode cX10_settles 141 = .ok (.aload_n 0, 1) := by decide +kernel
theorem dX10_settles_142 : decode cX10_settles 142 = .ok (.getfield 28, 3) := by decide +kernel
theorem dX10_settles_145 : decode cX10_settles 145 = .ok (.iload_n 1, 1) := by decide +kernel
theorem dX10_settles_146 : decode cX10_settles 146 = .ok (.aload_n 0, 1) := by decide +kernel
theorem dX10_settles_147 : decode cX10_settles 147 = .ok (.getfield 28, 3) := by decide +kernel
theorem dX10_settles_150 : decode cX10_settles 150 = .ok (.bipush 8, 2) := by decide +kernel
theorem dX10_settles_152 : decode cX10_settles 152 = .ok (.iload_n 1, 1) := by decide +kernel
theorem dX10_settles_153 : decode cX10_settles 153 = .ok (.iadd, 1) := by decide +kernel
theorem dX10_settles_154 : decode cX10_settles 154 = .ok (.iaload, 1) := by decide +kernel
theorem dX10_settles_155 : decode cX10_settles 155 = .ok (.iastore, 1) := by decide +kernel
theorem dX10_settles_156 : decode cX10_settles 156 = .ok (.aload_n 0, 1) := by decide +kernel
theorem dX10_settles_157 : decode cX10_settles 157 = .ok (.getfield 31, 3) := by decide +kernel
theorem dX10_settles_160 : decode cX10_settles 160 = .ok (.bipush 17, 2) := by decide +kernel
theorem dX10_settles_162 : decode cX10_settles 162 = .ok (.iload_n 1, 1) := by decide +kernel
theorem dX10_settles_163 : decode cX10_settles 163 = .ok (.iadd, 1) := by decide +kernel
theorem dX10_settles_164 : decode cX10_settles 164 = .ok (.iload_n 1, 1) := by decide +kernel
theorem dX10_settles_165 : decode cX10_settles 165 = .ok (.aload_n 0, 1) := by decide +kernel
theorem dX10_settles_166 : decode cX10_settles 166 = .ok (.getfield 13, 3) := by decide +kernel
theorem dX10_settles_169 : decode cX10_settles 169 = .ok (.iconst 2, 1) := by decide +kernel
theorem dX10_settles_170 : decode cX10_settles 170 = .ok (.iaload, 1) := by decide +kernel
theorem dX10_settles_171 : decode cX10_settles 171 = .ok (.if_icmp .ge 12, 3) := by decide +kernel
theorem dX10_settles_174 : decode cX10_settles 174 = .ok (.aload_n 0, 1) := by decide +kernel
theorem dX10_settles_175 : decode cX10_settles 175 = .ok (.getfield 19, 3) := by decide +kernel
theorem dX10_settles_178 : decode cX10_settles 178 = .ok (.iload_n 1, 1) := by decide +kernel
theorem dX10_settles_179 : decode cX10_settles 179 = .ok (.iaload, 1) := by decide +kernel
theorem dX10_settles_180 : decode cX10_settles 180 = .ok (.goto 4, 3) := by decide +kernel
theorem dX10_settles_183 : decode cX10_settles 183 = .ok (.iconst 0, 1) := by decide +kernel
theorem dX10_settles_184 : decode cX10_settles 184 = .ok (.iastore, 1) := by decide +kernel
theorem dX10_settles_185 : decode cX10_settles 185 = .ok (.iinc 1 1, 3) := by decide +kernel
theorem dX10_settles_188 : decode cX10_settles 188 = .ok (.goto (-83), 3) := by decide +kernel
theorem dX10_settles_191 : decode cX10_settles 191 = .ok (.aload_n 0, 1) := by decide +kernel
theorem dX10_settles_192 : decode cX10_settles 192 = .ok (.iconst 0, 1) := by decide +kernel
theorem dX10_settles_193 : decode cX10_settles 193 = .ok (.putfield 70, 3) := by decide +kernel
theorem dX10_settles_196 : decode cX10_settles 196 = .ok (.aload_n 0, 1) := by decide +kernel
theorem dX10_settles_197 : decode cX10_settles 197 = .ok (.iconst 0, 1) := by decide +kernel
theorem dX10_settles_198 : decode cX10_settles 198 = .ok (.putfield 121, 3) := by decide +kernel
theorem dX10_settles_201 : decode cX10_settles 201 = .ok (.aload_n 0, 1) := by decide +kernel
theorem dX10_settles_202 : decode cX10_settles 202 = .ok (.iconst 0, 1) := by decide +kernel
theorem dX10_settles_203 : decode cX10_settles 203 = .ok (.putfield 124, 3) := by decide +kernel
theorem dX10_settles_206 : decode cX10_settles 206 = .ok (.aload_n 0, 1) := by decide +kernel
theorem dX10_settles_207 : decode cX10_settles 207 = .ok (.getfield 37, 3) := by decide +kernel
theorem dX10_settles_210 : decode cX10_settles 210 = .ok (.iconst 0, 1) := by decide +kernel
theorem dX10_settles_211 : decode cX10_settles 211 = .ok (.iconst 0, 1) := by decide +kernel
theorem dX10_settles_212 : decode cX10_settles 212 = .ok (.bastore, 1) := by decide +kernel
theorem dX10_settles_213 : decode cX10_settles 213 = .ok (.aload_n 0, 1) := by decide +kernel
theorem dX10_settles_214 : decode cX10_settles 214 = .ok (.getfield 37, 3) := by decide +kernel
theorem dX10_settles_217 : decode cX10_settles 217 = .ok (.iconst 1, 1) := by decide +kernel
theorem dX10_settles_218 : decode cX10_settles 218 = .ok (.iconst 0, 1) := by decide +kernel
theorem dX10_settles_219 : decode cX10_settles 219 = .ok (.bastore, 1) := by decide +kernel
theorem dX10_settles_220 : decode cX10_settles 220 = .ok (.return_, 1) := by decide +kernel
theorem dX10_isPerson_0 : decode cX10_isPerson 0 = .ok (.iload_n 1, 1) := by decide +kernel
theorem dX10_isPerson_1 : decode cX10_isPerson 1 = .ok (.iconst 0, 1) := by decide +kernel
theorem dX10_isPerson_2 : decode cX10_isPerson 2 = .ok (.aload_n 0, 1) := by decide +kernel
theorem dX10_isPerson_3 : decode cX10_isPerson 3 = .ok (.getfield 13, 3) := by decide +kernel
theorem dX10_isPerson_6 : decode cX10_isPerson 6 = .ok (.iconst 1, 1) := by decide +kernel
theorem dX10_isPerson_7 : decode cX10_isPerson 7 = .ok (.iaload, 1) := by decide +kernel
theorem dX10_isPerson_8 : decode cX10_isPerson 8 = .ok (.iconst 1, 1) := by decide +kernel
theorem dX10_isPerson_9 : decode cX10_isPerson 9 = .ok (.isub, 1) := by decide +kernel
theorem dX10_isPerson_10 : decode cX10_isPerson 10 = .ok (.invokestatic 66, 3) := by decide +kernel
theorem dX10_isPerson_13 : decode cX10_isPerson 13 = .ok (.ireturn, 1) := by decide +kernel
theorem dX10_isDuty_0 : decode cX10_isDuty 0 = .ok (.iload_n 1, 1) := by decide +kernel
theorem dX10_isDuty_1 : decode cX10_isDuty 1 = .ok (.iconst 0, 1) := by decide +kernel
theorem dX10_isDuty_2 : decode cX10_isDuty 2 = .ok (.aload_n 0, 1) := by decide +kernel
theorem dX10_isDuty_3 : decode cX10_isDuty 3 = .ok (.getfield 13, 3) := by decide +kernel
theorem dX10_isDuty_6 : decode cX10_isDuty 6 = .ok (.iconst 2, 1) := by decide +kernel
theorem dX10_isDuty_7 : decode cX10_isDuty 7 = .ok (.iaload, 1) := by decide +kernel
theorem dX10_isDuty_8 : decode cX10_isDuty 8 = .ok (.iconst 1, 1) := by decide +kernel
theorem dX10_isDuty_9 : decode cX10_isDuty 9 = .ok (.isub, 1) := by decide +kernel
theorem dX10_isDuty_10 : decode cX10_isDuty 10 = .ok (.invokestatic 66, 3) := by decide +kernel
theorem dX10_isDuty_13 : decode cX10_isDuty 13 = .ok (.ireturn, 1) := by decide +kernel
theorem dX10_isPlace_0 : decode cX10_isPlace 0 = .ok (.iload_n 1, 1) := by decide +kernel
theorem dX10_isPlace_1 : decode cX10_isPlace 1 = .ok (.iconst 0, 1) := by decide +kernel
theorem dX10_isPlace_2 : decode cX10_isPlace 2 = .ok (.aload_n 0, 1) := by decide +kernel
theorem dX10_isPlace_3 : decode cX10_isPlace 3 = .ok (.getfield 13, 3) := by decide +kernel
theorem dX10_isPlace_6 : decode cX10_isPlace 6 = .ok (.iconst 0, 1) := by decide +kernel
theorem dX10_isPlace_7 : decode cX10_isPlace 7 = .ok (.iaload, 1) := by decide +kernel
theorem dX10_isPlace_8 : decode cX10_isPlace 8 = .ok (.iconst 1, 1) := by decide +kernel
theorem dX10_isPlace_9 : decode cX10_isPlace 9 = .ok (.isub, 1) := by decide +kernel
theorem dX10_isPlace_10 : decode cX10_isPlace 10 = .ok (.invokestatic 66, 3) := by decide +kernel
theorem dX10_isPlace_13 : decode cX10_isPlace 13 = .ok (.ireturn, 1) := by decide +kernel
theorem dX10_isRung_0 : decode cX10_isRung 0 = .ok (.iconst 0, 1) := by decide +kernel
theorem dX10_isRung_1 : decode cX10_isRung 1 = .ok (.istore 4, 2) := by decide +kernel
theorem dX10_isRung_3 : decode cX10_isRung 3 = .ok (.iconst 0, 1) := by decide +kernel
theorem dX10_isRung_4 : decode cX10_isRung 4 = .ok (.istore 5, 2) := by decide +kernel
theorem dX10_isRung_6 : decode cX10_isRung 6 = .ok (.iload 5, 2) := by decide +kernel
theorem dX10_isRung_8 : decode cX10_isRung 8 = .ok (.aload_n 0, 1) := by decide +kernel
theorem dX10_isRung_9 : decode cX10_isRung 9 = .ok (.getfield 13, 3) := by decide +kernel
theorem dX10_isRung_12 : decode cX10_isRung 12 = .ok (.iconst 2, 1) := by decide +kernel
theorem dX10_isRung_13 : decode cX10_isRung 13 = .ok (.iaload, 1) := by decide +kernel
theorem dX10_isRung_14 : decode cX10_isRung 14 = .ok (.if_icmp .ge 107, 3) := by decide +kernel
theorem dX10_isRung_17 : decode cX10_isRung 17 = .ok (.iload_n 2, 1) := by decide +kernel
theorem dX10_isRung_18 : decode cX10_isRung 18 = .ok (.aload_n 0, 1) := by decide +kernel
theorem dX10_isRung_19 : decode cX10_isRung 19 = .ok (.getfield 25, 3) := by decide +kernel
theorem dX10_isRung_22 : decode cX10_isRung 22 = .ok (.iload 5, 2) := by decide +kernel
theorem dX10_isRung_24 : decode cX10_isRung 24 = .ok (.iaload, 1) := by decide +kernel
theorem dX10_isRung_25 : decode cX10_isRung 25 = .ok (.aload_n 0, 1) := by decide +kernel
theorem dX10_isRung_26 : decode cX10_isRung 26 = .ok (.getfield 13, 3) := by decide +kernel
theorem dX10_isRung_29 : decode cX10_isRung 29 = .ok (.iconst 4, 1) := by decide +kernel
theorem dX10_isRung_30 : decode cX10_isRung 30 = .ok (.iaload, 1) := by decide +kernel
theorem dX10_isRung_31 : decode cX10_isRung 31 = .ok (.iadd, 1) := by decide +kernel
theorem dX10_isRung_32 : decode cX10_isRung 32 = .ok (.if_icmp .lt 26, 3) := by decide +kernel
theorem dX10_isRung_35 : decode cX10_isRung 35 = .ok (.iload_n 2, 1) := by decide +kernel
theorem dX10_isRung_36 : decode cX10_isRung 36 = .ok (.aload_n 0, 1) := by decide +kernel
theorem dX10_isRung_37 : decode cX10_isRung 37 = .ok (.getfield 25, 3) := by decide +kernel
theorem dX10_isRung_40 : decode cX10_isRung 40 = .ok (.iload 5, 2) := by decide +kernel
theorem dX10_isRung_42 : decode cX10_isRung 42 = .ok (.iaload, 1) := by decide +kernel
theorem dX10_isRung_43 : decode cX10_isRung 43 = .ok (.aload_n 0, 1) := by decide +kernel
theorem dX10_isRung_44 : decode cX10_isRung 44 = .ok (.getfield 28, 3) := by decide +kernel
theorem dX10_isRung_47 : decode cX10_isRung 47 = .ok (.iload 5, 2) := by decide +kernel
theorem dX10_isRung_49 : decode cX10_isRung 49 = .ok (.iaload, 1) := by decide +kernel
theorem dX10_isRung_50 : decode cX10_isRung 50 = .ok (.iadd, 1) := by decide +kernel
theorem dX10_isRung_51 : decode cX10_isRung 51 = .ok (.if_icmp .ge 7, 3) := by decide +kernel
theorem dX10_isRung_54 : decode cX10_isRung 54 = .ok (.iconst 1, 1) := by decide +kernel
theorem dX10_isRung_55 : decode cX10_isRung 55 = .ok (.goto 4, 3) := by decide +kernel
theorem dX10_isRung_58 : decode cX10_isRung 58 = .ok (.iconst 0, 1) := by decide +kernel
theorem dX10_isRung_59 : decode cX10_isRung 59 = .ok (.istore 6, 2) := by decide +kernel
theorem dX10_isRung_61 : decode cX10_isRung 61 = .ok (.iload 4, 2) := by decide +kernel
theorem dX10_isRung_63 : decode cX10_isRung 63 = .ok (.ifCond .ne 45, 3) := by decide +kernel
theorem dX10_isRung_66 : decode cX10_isRung 66 = .ok (.aload_n 0, 1) := by decide +kernel
theorem dX10_isRung_67 : decode cX10_isRung 67 = .ok (.getfield 31, 3) := by decide +kernel
theorem dX10_isRung_70 : decode cX10_isRung 70 = .ok (.bipush 17, 2) := by decide +kernel
theorem dX10_isRung_72 : decode cX10_isRung 72 = .ok (.iload 5, 2) := by decide +kernel
theorem dX10_isRung_74 : decode cX10_isRung 74 = .ok (.iadd, 1) := by decide +kernel
theorem dX10_isRung_75 : decode cX10_isRung 75 = .ok (.iaload, 1) := by decide +kernel
theorem dX10_isRung_76 : decode cX10_isRung 76 = .ok (.iload_n 1, 1) := by decide +kernel
theorem dX10_isRung_77 : decode cX10_isRung 77 = .ok (.if_icmp .ne 35, 3) := by decide +kernel
theorem dX10_isRung_80 : decode cX10_isRung 80 = .ok (.aload_n 0, 1) := by decide +kernel
theorem dX10_isRung_81 : decode cX10_isRung 81 = .ok (.getfield 127, 3) := by decide +kernel
theorem dX10_isRung_84 : decode cX10_isRung 84 = .ok (.iload 5, 2) := by decide +kernel
theorem dX10_isRung_86 : decode cX10_isRung 86 = .ok (.ishr, 1) := by decide +kernel
theorem dX10_isRung_87 : decode cX10_isRung 87 = .ok (.iconst 1, 1) := by decide +kernel
theorem dX10_isRung_88 : decode cX10_isRung 88 = .ok (.iand, 1) := by decide +kernel
theorem dX10_isRung_89 : decode cX10_isRung 89 = .ok (.ifCond .ne 23, 3) := by decide +kernel
theorem dX10_isRung_92 : decode cX10_isRung 92 = .ok (.iload 6, 2) := by decide +kernel
theorem dX10_isRung_94 : decode cX10_isRung 94 = .ok (.ifCond .eq 18, 3) := by decide +kernel
theorem dX10_isRung_97 : decode cX10_isRung 97 = .ok (.aload_n 0, 1) := by decide +kernel
theorem dX10_isRung_98 : decode cX10_isRung 98 = .ok (.getfield 22, 3) := by decide +kernel
theorem dX10_isRung_101 : decode cX10_isRung 101 = .ok (.iload 5, 2) := by decide +kernel
theorem dX10_isRung_103 : decode cX10_isRung 103 = .ok (.iaload, 1) := by decide +kernel
theorem dX10_isRung_104 : decode cX10_isRung 104 = .ok (.iload_n 3, 1) := by decide +kernel
theorem dX10_isRung_105 : decode cX10_isRung 105 = .ok (.if_icmp .eq 7, 3) := by decide +kernel
theorem dX10_isRung_108 : decode cX10_isRung 108 = .ok (.iconst 1, 1) := by decide +kernel
theorem dX10_isRung_109 : decode cX10_isRung 109 = .ok (.goto 4, 3) := by decide +kernel
theorem dX10_isRung_112 : decode cX10_isRung 112 = .ok (.iconst 0, 1) := by decide +kernel
theorem dX10_isRung_113 : decode cX10_isRung 113 = .ok (.istore 4, 2) := by decide +kernel
theorem dX10_isRung_115 : decode cX10_isRung 115 = .ok (.iinc 5 1, 3) := by decide +kernel
theorem dX10_isRung_118 : decode cX10_isRung 118 = .ok (.goto (-112), 3) := by decide +kernel
theorem dX10_isRung_121 : decode cX10_isRung 121 = .ok (.iload 4, 2) := by decide +kernel
theorem dX10_isRung_123 : decode cX10_isRung 123 = .ok (.ireturn, 1) := by decide +kernel
theorem dX10_placeIn_0 : decode cX10_placeIn 0 = .ok (.aload_n 0, 1) := by decide +kernel
theorem dX10_placeIn_1 : decode cX10_placeIn 1 = .ok (.getfield 31, 3) := by decide +kernel
theorem dX10_placeIn_4 : decode cX10_placeIn 4 = .ok (.iconst 5, 1) := by decide +kernel
theorem dX10_placeIn_5 : decode cX10_placeIn 5 = .ok (.iload_n 1, 1) := by decide +kernel
theorem dX10_placeIn_6 : decode cX10_placeIn 6 = .ok (.iadd, 1) := by decide +kernel
theorem dX10_placeIn_7 : decode cX10_placeIn 7 = .ok (.iaload, 1) := by decide +kernel
theorem dX10_placeIn_8 : decode cX10_placeIn 8 = .ok (.iload_n 2, 1) := by decide +kernel
theorem dX10_placeIn_9 : decode cX10_placeIn 9 = .ok (.if_icmp .le 8, 3) := by decide +kernel
theorem dX10_placeIn_12 : decode cX10_placeIn 12 = .ok (.bipush (-9), 2) := by decide +kernel
theorem dX10_placeIn_14 : decode cX10_placeIn 14 = .ok (.goto 11, 3) := by decide +kernel
theorem dX10_placeIn_17 : decode cX10_placeIn 17 = .ok (.aload_n 0, 1) := by decide +kernel
theorem dX10_placeIn_18 : decode cX10_placeIn 18 = .ok (.getfield 31, 3) := by decide +kernel
theorem dX10_placeIn_21 : decode cX10_placeIn 21 = .ok (.iconst 0, 1) := by decide +kernel
theorem dX10_placeIn_22 : decode cX10_placeIn 22 = .ok (.iload_n 1, 1) := by decide +kernel
theorem dX10_placeIn_23 : decode cX10_placeIn 23 = .ok (.iadd, 1) := by decide +kernel
theorem dX10_placeIn_24 : decode cX10_placeIn 24 = .ok (.iaload, 1) := by decide +kernel
theorem dX10_placeIn_25 : decode cX10_placeIn 25 = .ok (.ireturn, 1) := by decide +kernel
theorem dX10_ringsIn_0 : decode cX10_ringsIn 0 = .ok (.iconst 0, 1) := by decide +kernel
theorem dX10_ringsIn_1 : decode cX10_ringsIn 1 = .ok (.istore_n 2, 1) := by decide +kernel
theorem dX10_ringsIn_2 : decode cX10_ringsIn 2 = .ok (.iconst 0, 1) := by decide +kernel
theorem dX10_ringsIn_3 : decode cX10_ringsIn 3 = .ok (.istore_n 3, 1) := by decide +kernel
theorem dX10_ringsIn_4 : decode cX10_ringsIn 4 = .ok (.iload_n 3, 1) := by decide +kernel
theorem dX10_ringsIn_5 : decode cX10_ringsIn 5 = .ok (.aload_n 0, 1) := by decide +kernel
theorem dX10_ringsIn_6 : decode cX10_ringsIn 6 = .ok (.getfield 13, 3) := by decide +kernel
theorem dX10_ringsIn_9 : decode cX10_ringsIn 9 = .ok (.iconst 1, 1) := by decide +kernel
theorem dX10_ringsIn_10 : decode cX10_ringsIn 10 = .ok (.iaload, 1) := by decide +kernel
theorem dX10_ringsIn_11 : decode cX10_ringsIn 11 = .ok (.if_icmp .ge 42, 3) := by decide +kernel
theorem dX10_ringsIn_14 : decode cX10_ringsIn 14 = .ok (.iload_n 2, 1) := by decide +kernel
theorem dX10_ringsIn_15 : decode cX10_ringsIn 15 = .ok (.aload_n 0, 1) := by decide +kernel
theorem dX10_ringsIn_16 : decode cX10_ringsIn 16 = .ok (.iload_n 3, 1) := by decide +kernel
theorem dX10_ringsIn_17 : decode cX10_ringsIn 17 = .ok (.iload_n 1, 1) := by decide +kernel
theorem dX10_ringsIn_18 : decode cX10_ringsIn 18 = .ok (.aload_n 0, 1) := by decide +kernel
theorem dX10_ringsIn_19 : decode cX10_ringsIn 19 = .ok (.iload_n 3, 1) := by decide +kernel
theorem dX10_ringsIn_20 : decode cX10_ringsIn 20 = .ok (.iload_n 1, 1) := by decide +kernel
theorem dX10_ringsIn_21 : decode cX10_ringsIn 21 = .ok (.aload_n 0, 1) := by decide +kernel
theorem dX10_ringsIn_22 : decode cX10_ringsIn 22 = .ok (.getfield 31, 3) := by decide +kernel
theorem dX10_ringsIn_25 : decode cX10_ringsIn 25 = .ok (.bipush 15, 2) := by decide +kernel
theorem dX10_ringsIn_27 : decode cX10_ringsIn 27 = .ok (.iaload, 1) := by decide +kernel
theorem dX10_ringsIn_28 : decode cX10_ringsIn 28 = .ok (.isub, 1) := by decide +kernel
theorem dX10_ringsIn_29 : decode cX10_ringsIn 29 = .ok (.invokevirtual 130, 3) := by decide +kernel
theorem dX10_ringsIn_32 : decode cX10_ringsIn 32 = .ok (.invokevirtual 133, 3) := by decide +kernel
theorem dX10_ringsIn_35 : decode cX10_ringsIn 35 = .ok (.ifCond .eq 9, 3) := by decide +kernel
theorem dX10_ringsIn_38 : decode cX10_ringsIn 38 = .ok (.iconst 1, 1) := by decide +kernel
theorem dX10_ringsIn_39 : decode cX10_ringsIn 39 = .ok (.iload_n 3, 1) := by decide +kernel
theorem dX10_ringsIn_40 : decode cX10_ringsIn 40 = .ok (.ishl, 1) := by decide +kernel
theorem dX10_ringsIn_41 : decode cX10_ringsIn 41 = .ok (.goto 4, 3) := by decide +kernel
theorem dX10_ringsIn_44 : decode cX10_ringsIn 44 = .ok (.iconst 0, 1) := by decide +kernel
theorem dX10_ringsIn_45 : decode cX10_ringsIn 45 = .ok (.ior, 1) := by decide +kernel
theorem dX10_ringsIn_46 : decode cX10_ringsIn 46 = .ok (.istore_n 2, 1) := by decide +kernel
theorem dX10_ringsIn_47 : decode cX10_ringsIn 47 = .ok (.iinc 3 1, 3) := by decide +kernel
theorem dX10_ringsIn_50 : decode cX10_ringsIn 50 = .ok (.goto (-46), 3) := by decide +kernel
theorem dX10_ringsIn_53 : decode cX10_ringsIn 53 = .ok (.iload_n 2, 1) := by decide +kernel
theorem dX10_ringsIn_54 : decode cX10_ringsIn 54 = .ok (.ireturn, 1) := by decide +kernel
theorem dX10_asNow_0 : decode cX10_asNow 0 = .ok (.aload_n 0, 1) := by decide +kernel
theorem dX10_asNow_1 : decode cX10_asNow 1 = .ok (.aload_n 0, 1) := by decide +kernel
theorem dX10_asNow_2 : decode cX10_asNow 2 = .ok (.getfield 31, 3) := by decide +kernel
theorem dX10_asNow_5 : decode cX10_asNow 5 = .ok (.bipush 16, 2) := by decide +kernel
theorem dX10_asNow_7 : decode cX10_asNow 7 = .ok (.iaload, 1) := by decide +kernel
theorem dX10_asNow_8 : decode cX10_asNow 8 = .ok (.putfield 127, 3) := by decide +kernel
theorem dX10_asNow_11 : decode cX10_asNow 11 = .ok (.return_, 1) := by decide +kernel
theorem dX10_person_0 : decode cX10_person 0 = .ok (.aload_n 0, 1) := by decide +kernel
theorem dX10_person_1 : decode cX10_person 1 = .ok (.iconst 0, 1) := by decide +kernel
theorem dX10_person_2 : decode cX10_person 2 = .ok (.putfield 62, 3) := by decide +kernel
theorem dX10_person_5 : decode cX10_person 5 = .ok (.aload_n 0, 1) := by decide +kernel
theorem dX10_person_6 : decode cX10_person 6 = .ok (.iload_n 1, 1) := by decide +kernel
theorem dX10_person_7 : decode cX10_person 7 = .ok (.invokevirtual 136, 3) := by decide +kernel
theorem dX10_person_10 : decode cX10_person 10 = .ok (.ifCond .eq 12, 3) := by decide +kernel
theorem dX10_person_13 : decode cX10_person 13 = .ok (.iload_n 2, 1) := by decide +kernel
theorem dX10_person_14 : decode cX10_person 14 = .ok (.iconst 0, 1) := by decide +kernel
theorem dX10_person_15 : decode cX10_person 15 = .ok (.iconst 5, 1) := by decide +kernel
theorem dX10_person_16 : decode cX10_person 16 = .ok (.invokestatic 66, 3) := by decide +kernel
theorem dX10_person_19 : decode cX10_person 19 = .ok (.ifCond .ne 5, 3) := by decide +kernel
theorem dX10_person_22 : decode cX10_person 22 = .ok (.iconst (-1), 1) := by decide +kernel
theorem dX10_person_23 : decode cX10_person 23 = .ok (.ireturn, 1) := by decide +kernel
theorem dX10_person_24 : decode cX10_person 24 = .ok (.aload_n 0, 1) := by decide +kernel
theorem dX10_person_25 : decode cX10_person 25 = .ok (.invokevirtual 139, 3) := by decide +kernel
theorem dX10_person_28 : decode cX10_person 28 = .ok (.iload_n 2, 1) := by decide +kernel
theorem dX10_person_29 : decode cX10_person 29 = .ok (.iconst 3, 1) := by decide +kernel
theorem dX10_person_30 : decode cX10_person 30 = .ok (.if_icmp .ge 41, 3) := by decide +kernel
theorem dX10_person_33 : decode cX10_person 33 = .ok (.iload_n 2, 1) := by decide +kernel
theorem dX10_person_34 : decode cX10_person 34 = .ok (.ifCond .ne 12, 3) := by decide +kernel
theorem dX10_person_37 : decode cX10_person 37 = .ok (.aload_n 0, 1) := by decide +kernel
theorem dX10_person_38 : decode cX10_person 38 = .ok (.iload_n 1, 1) := by decide +kernel
theorem dX10_person_39 : decode cX10_person 39 = .ok (.iconst 0, 1) := by decide +kernel
theorem dX10_person_40 : decode cX10_person 40 = .ok (.invokevirtual 130, 3) := by decide +kernel
theorem dX10_person_43 : decode cX10_person 43 = .ok (.goto 27, 3) := by decide +kernel
theorem dX10_person_46 : decode cX10_person 46 = .ok (.iload_n 2, 1) := by decide +kernel
theorem dX10_person_47 : decode cX10_person 47 = .ok (.iconst 1, 1) := by decide +kernel
theorem dX10_person_48 : decode cX10_person 48 = .ok (.if_icmp .ne 14, 3) := by decide +kernel
theorem dX10_person_51 : decode cX10_person 51 = .ok (.aload_n 0, 1) := by decide +kernel
theorem dX10_person_52 : decode cX10_person 52 = .ok (.getfield 31, 3) := by decide +kernel
theorem dX10_person_55 : decode cX10_person 55 = .ok (.iconst 0, 1) := by decide +kernel
theorem dX10_person_56 : decode cX10_person 56 = .ok (.iload_n 1, 1) := by decide +kernel
theorem dX10_person_57 : decode cX10_person 57 = .ok (.iadd, 1) := by decide +kernel
theorem dX10_person_58 : decode cX10_person 58 = .ok (.iaload, 1) := by decide +kernel
theorem dX10_person_59 : decode cX10_person 59 = .ok (.goto 11, 3) := by decide +kernel
theorem dX10_person_62 : decode cX10_person 62 = .ok (.aload_n 0, 1) := by decide +kernel
theorem dX10_person_63 : decode cX10_person 63 = .ok (.getfield 31, 3) := by decide +kernel
theorem dX10_person_66 : decode cX10_person 66 = .ok (.iconst 5, 1) := by decide +kernel
theorem dX10_person_67 : decode cX10_person 67 = .ok (.iload_n 1, 1) := by decide +kernel
theorem dX10_person_68 : decode cX10_person 68 = .ok (.iadd, 1) := by decide +kernel
theorem dX10_person_69 : decode cX10_person 69 = .ok (.iaload, 1) := by decide +kernel
theorem dX10_person_70 : decode cX10_person 70 = .ok (.ireturn, 1) := by decide +kernel
theorem dX10_person_71 : decode cX10_person 71 = .ok (.iload_n 2, 1) := by decide +kernel
theorem dX10_person_72 : decode cX10_person 72 = .ok (.iconst 3, 1) := by decide +kernel
theorem dX10_person_73 : decode cX10_person 73 = .ok (.if_icmp .ne 15, 3) := by decide +kernel
theorem dX10_person_76 : decode cX10_person 76 = .ok (.aload_n 0, 1) := by decide +kernel
theorem dX10_person_77 : decode cX10_person 77 = .ok (.getfield 31, 3) := by decide +kernel
theorem dX10_person_80 : decode cX10_person 80 = .ok (.bipush 10, 2) := by decide +kernel
theorem dX10_person_82 : decode cX10_person 82 = .ok (.iload_n 1, 1) := by decide +kernel
theorem dX10_person_83 : decode cX10_person 83 = .ok (.iadd, 1) := by decide +kernel
theorem dX10_person_84 : decode cX10_person 84 = .ok (.iaload, 1) := by decide +kernel
theorem dX10_person_85 : decode cX10_person 85 = .ok (.goto 56, 3) := by decide +kernel
theorem dX10_person_88 : decode cX10_person 88 = .ok (.iload_n 2, 1) := by decide +kernel
theorem dX10_person_89 : decode cX10_person 89 = .ok (.iconst 5, 1) := by decide +kernel
theorem dX10_person_90 : decode cX10_person 90 = .ok (.if_icmp .ne 12, 3) := by decide +kernel
theorem dX10_person_93 : decode cX10_person 93 = .ok (.aload_n 0, 1) := by decide +kernel
theorem dX10_person_94 : decode cX10_person 94 = .ok (.getfield 16, 3) := by decide +kernel
theorem dX10_person_97 : decode cX10_person 97 = .ok (.iload_n 1, 1) := by decide +kernel
theorem dX10_person_98 : decode cX10_person 98 = .ok (.iaload, 1) := by decide +kernel
theorem dX10_person_99 : decode cX10_person 99 = .ok (.goto 42, 3) := by decide +kernel
theorem dX10_person_102 : decode cX10_person 102 = .ok (.aload_n 0, 1) := by decide +kernel
theorem dX10_person_103 : decode cX10_person 103 = .ok (.getfield 31, 3) := by decide +kernel
theorem dX10_person_106 : decode cX10_person 106 = .ok (.bipush 15, 2) := by decide +kernel
theorem dX10_person_108 : decode cX10_person 108 = .ok (.iaload, 1) := by decide +kernel
theorem dX10_person_109 : decode cX10_person 109 = .ok (.sipush 240, 3) := by decide +kernel
theorem dX10_person_112 : decode cX10_person 112 = .ok (.if_icmp .ge 28, 3) := by decide +kernel
theorem dX10_person_115 : decode cX10_person 115 = .ok (.aload_n 0, 1) := by decide +kernel
theorem dX10_person_116 : decode cX10_person 116 = .ok (.iload_n 1, 1) := by decide +kernel
theorem dX10_person_117 : decode cX10_person 117 = .ok (.aload_n 0, 1) := by decide +kernel
theorem dX10_person_118 : decode cX10_person 118 = .ok (.getfield 31, 3) := by decide +kernel
theorem dX10_person_121 : decode cX10_person 121 = .ok (.bipush 15, 2) := by decide +kernel
theorem dX10_person_123 : decode cX10_person 123 = .ok (.iaload, 1) := by decide +kernel
theorem dX10_person_124 : decode cX10_person 124 = .ok (.aload_n 0, 1) := by decide +kernel
theorem dX10_person_125 : decode cX10_person 125 = .ok (.iload_n 1, 1) := by decide +kernel
theorem dX10_person_126 : decode cX10_person 126 = .ok (.iconst 0, 1) := by decide +kernel
theorem dX10_person_127 : decode cX10_person 127 = .ok (.invokevirtual 130, 3) := by decide +kernel
theorem dX10_person_130 : decode cX10_person 130 = .ok (.invokevirtual 133, 3) := by decide +kernel
theorem dX10_person_133 : decode cX10_person 133 = .ok (.ifCond .eq 7, 3) := by decide +kernel
theorem dX10_person_136 : decode cX10_person 136 = .ok (.iconst 1, 1) := by decide +kernel
theorem dX10_person_137 : decode cX10_person 137 = .ok (.goto 4, 3) := by decide +kernel
theorem dX10_person_140 : decode cX10_person 140 = .ok (.iconst 0, 1) := by decide +kernel
theorem dX10_person_141 : decode cX10_person 141 = .ok (.ireturn, 1) := by decide +kernel
theorem dX10_duty_0 : decode cX10_duty 0 = .ok (.aload_n 0, 1) := by decide +kernel
theorem dX10_duty_1 : decode cX10_duty 1 = .ok (.iconst 0, 1) := by decide +kernel
theorem dX10_duty_2 : decode cX10_duty 2 = .ok (.putfield 62, 3) := by decide +kernel
theorem dX10_duty_5 : decode cX10_duty 5 = .ok (.aload_n 0, 1) := by decide +kernel
theorem dX10_duty_6 : decode cX10_duty 6 = .ok (.iload_n 1, 1) := by decide +kernel
theorem dX10_duty_7 : decode cX10_duty 7 = .ok (.invokevirtual 142, 3) := by decide +kernel
theorem dX10_duty_10 : decode cX10_duty 10 = .ok (.ifCond .eq 12, 3) := by decide +kernel
theorem dX10_duty_13 : decode cX10_duty 13 = .ok (.iload_n 2, 1) := by decide +kernel
theorem dX10_duty_14 : decode cX10_duty 14 = .ok (.iconst 0, 1) := by decide +kernel
theorem dX10_duty_15 : decode cX10_duty 15 = .ok (.iconst 4, 1) := by decide +kernel
theorem dX10_duty_16 : decode cX10_duty 16 = .ok (.invokestatic 66, 3) := by decide +kernel
theorem dX10_duty_19 : decode cX10_duty 19 = .ok (.ifCond .ne 5, 3) := by decide +kernel
theorem dX10_duty_22 : decode cX10_duty 22 = .ok (.iconst (-1), 1) := by decide +kernel
theorem dX10_duty_23 : decode cX10_duty 23 = .ok (.ireturn, 1) := by decide +kernel
theorem dX10_duty_24 : decode cX10_duty 24 = .ok (.iload_n 2, 1) := by decide +kernel
theorem dX10_duty_25 : decode cX10_duty 25 = .ok (.ifCond .ne 15, 3) := by decide +kernel
theorem dX10_duty_28 : decode cX10_duty 28 = .ok (.aload_n 0, 1) := by decide +kernel
theorem dX10_duty_29 : decode cX10_duty 29 = .ok (.getfield 31, 3) := by decide +kernel
theorem dX10_duty_32 : decode cX10_duty 32 = .ok (.bipush 17, 2) := by decide +kernel
theorem dX10_duty_34 : decode cX10_duty 34 = .ok (.iload_n 1, 1) := by decide +kernel
theorem dX10_duty_35 : decode cX10_duty 35 = .ok (.iadd, 1) := by decide +kernel
theorem dX10_duty_36 : decode cX10_duty 36 = .ok (.iaload, 1) := by decide +kernel
theorem dX10_duty_37 : decode cX10_duty 37 = .ok (.goto 56, 3) := by decide +kernel
theorem dX10_duty_40 : decode cX10_duty 40 = .ok (.iload_n 2, 1) := by decide +kernel
theorem dX10_duty_41 : decode cX10_duty 41 = .ok (.iconst 1, 1) := by decide +kernel
theorem dX10_duty_42 : decode cX10_duty 42 = .ok (.if_icmp .ne 12, 3) := by decide +kernel
theorem dX10_duty_45 : decode cX10_duty 45 = .ok (.aload_n 0, 1) := by decide +kernel
theorem dX10_duty_46 : decode cX10_duty 46 = .ok (.getfield 22, 3) := by decide +kernel
theorem dX10_duty_49 : decode cX10_duty 49 = .ok (.iload_n 1, 1) := by decide +kernel
theorem dX10_duty_50 : decode cX10_duty 50 = .ok (.iaload, 1) := by decide +kernel
theorem dX10_duty_51 : decode cX10_duty 51 = .ok (.goto 42, 3) := by decide +kernel
theorem dX10_duty_54 : decode cX10_duty 54 = .ok (.iload_n 2, 1) := by decide +kernel
theorem dX10_duty_55 : decode cX10_duty 55 = .ok (.iconst 2, 1) := by decide +kernel
theorem dX10_duty_56 : decode cX10_duty 56 = .ok (.if_icmp .ne 12, 3) := by decide +kernel
theorem dX10_duty_59 : decode cX10_duty 59 = .ok (.aload_n 0, 1) := by decide +kernel
theorem dX10_duty_60 : decode cX10_duty 60 = .ok (.getfield 25, 3) := by decide +kernel
theorem dX10_duty_63 : decode cX10_duty 63 = .ok (.iload_n 1, 1) := by decide +kernel
theorem dX10_duty_64 : decode cX10_duty 64 = .ok (.iaload, 1) := by decide +kernel
theorem dX10_duty_65 : decode cX10_duty 65 = .ok (.goto 28, 3) := by decide +kernel
theorem dX10_duty_68 : decode cX10_duty 68 = .ok (.iload_n 2, 1) := by decide +kernel
theorem dX10_duty_69 : decode cX10_duty 69 = .ok (.iconst 3, 1) := by decide +kernel
theorem dX10_duty_70 : decode cX10_duty 70 = .ok (.if_icmp .ne 12, 3) := by decide +kernel
theorem dX10_duty_73 : decode cX10_duty 73 = .ok (.aload_n 0, 1) := by decide +kernel
theorem dX10_duty_74 : decode cX10_duty 74 = .ok (.getfield 28, 3) := by decide +kernel
theorem dX10_duty_77 : decode cX10_duty 77 = .ok (.iload_n 1, 1) := by decide +kernel
theorem dX10_duty_78 : decode cX10_duty 78 = .ok (.iaload, 1) := by decide +kernel
theorem dX10_duty_79 : decode cX10_duty 79 = .ok (.goto 14, 3) := by decide +kernel
theorem dX10_duty_82 : decode cX10_duty 82 = .ok (.aload_n 0, 1) := by decide +kernel
theorem dX10_duty_83 : decode cX10_duty 83 = .ok (.getfield 31, 3) := by decide +kernel
theorem dX10_duty_86 : decode cX10_duty 86 = .ok (.bipush 16, 2) := by decide +kernel
theorem dX10_duty_88 : decode cX10_duty 88 = .ok (.iaload, 1) := by decide +kernel
theorem dX10_duty_89 : decode cX10_duty 89 = .ok (.iload_n 1, 1) := by decide +kernel
theorem dX10_duty_90 : decode cX10_duty 90 = .ok (.ishr, 1) := by decide +kernel
theorem dX10_duty_91 : decode cX10_duty 91 = .ok (.iconst 1, 1) := by decide +kernel
theorem dX10_duty_92 : decode cX10_duty 92 = .ok (.iand, 1) := by decide +kernel
theorem dX10_duty_93 : decode cX10_duty 93 = .ok (.ireturn, 1) := by decide +kernel
theorem dX10_worst_0 : decode cX10_worst 0 = .ok (.bipush (-9), 2) := by decide +kernel
theorem dX10_worst_2 : decode cX10_worst 2 = .ok (.istore_n 1, 1) := by decide +kernel
theorem dX10_worst_3 : decode cX10_worst 3 = .ok (.aload_n 0, 1) := by decide +kernel
theorem dX10_worst_4 : decode cX10_worst 4 = .ok (.getfield 13, 3) := by decide +kernel
theorem dX10_worst_7 : decode cX10_worst 7 = .ok (.iconst 1, 1) := by decide +kernel
theorem dX10_worst_8 : decode cX10_worst 8 = .ok (.iaload, 1) := by decide +kernel
theorem dX10_worst_9 : decode cX10_worst 9 = .ok (.iconst 1, 1) := by decide +kernel
theorem dX10_worst_10 : decode cX10_worst 10 = .ok (.isub, 1) := by decide +kernel
theorem dX10_worst_11 : decode cX10_worst 11 = .ok (.istore_n 2, 1) := by decide +kernel
theorem dX10_worst_12 : decode cX10_worst 12 = .ok (.iload_n 2, 1) := by decide +kernel
theorem dX10_worst_13 : decode cX10_worst 13 = .ok (.ifCond .lt 54, 3) := by decide +kernel
theorem dX10_worst_16 : decode cX10_worst 16 = .ok (.aload_n 0, 1) := by decide +kernel
theorem dX10_worst_17 : decode cX10_worst 17 = .ok (.getfield 31, 3) := by decide +kernel
theorem dX10_worst_20 : decode cX10_worst 20 = .ok (.bipush 10, 2) := by decide +kernel
theorem dX10_worst_22 : decode cX10_worst 22 = .ok (.iload_n 2, 1) := by decide +kernel
theorem dX10_worst_23 : decode cX10_worst 23 = .ok (.iadd, 1) := by decide +kernel
theorem dX10_worst_24 : decode cX10_worst 24 = .ok (.iaload, 1) := by decide +kernel
theorem dX10_worst_25 : decode cX10_worst 25 = .ok (.ifCond .le 34, 3) := by decide +kernel
theorem dX10_worst_28 : decode cX10_worst 28 = .ok (.iload_n 1, 1) := by decide +kernel
theorem dX10_worst_29 : decode cX10_worst 29 = .ok (.bipush (-9), 2) := by decide +kernel
theorem dX10_worst_31 : decode cX10_worst 31 = .ok (.if_icmp .eq 24, 3) := by decide +kernel
theorem dX10_worst_34 : decode cX10_worst 34 = .ok (.aload_n 0, 1) := by decide +kernel
theorem dX10_worst_35 : decode cX10_worst 35 = .ok (.getfield 31, 3) := by decide +kernel
theorem dX10_worst_38 : decode cX10_worst 38 = .ok (.bipush 10, 2) := by decide +kernel
theorem dX10_worst_40 : decode cX10_worst 40 = .ok (.iload_n 2, 1) := by decide +kernel
theorem dX10_worst_41 : decode cX10_worst 41 = .ok (.iadd, 1) := by decide +kernel
theorem dX10_worst_42 : decode cX10_worst 42 = .ok (.iaload, 1) := by decide +kernel
theorem dX10_worst_43 : decode cX10_worst 43 = .ok (.aload_n 0, 1) := by decide +kernel
theorem dX10_worst_44 : decode cX10_worst 44 = .ok (.getfield 31, 3) := by decide +kernel
theorem dX10_worst_47 : decode cX10_worst 47 = .ok (.bipush 10, 2) := by decide +kernel
theorem dX10_worst_49 : decode cX10_worst 49 = .ok (.iload_n 1, 1) := by decide +kernel
theorem dX10_worst_50 : decode cX10_worst 50 = .ok (.iadd, 1) := by decide +kernel
theorem dX10_worst_51 : decode cX10_worst 51 = .ok (.iaload, 1) := by decide +kernel
theorem dX10_worst_52 : decode cX10_worst 52 = .ok (.if_icmp .lt 7, 3) := by decide +kernel
theorem dX10_worst_55 : decode cX10_worst 55 = .ok (.iload_n 2, 1) := by decide +kernel
theorem dX10_worst_56 : decode cX10_worst 56 = .ok (.goto 4, 3) := by decide +kernel
theorem dX10_worst_59 : decode cX10_worst 59 = .ok (.iload_n 1, 1) := by decide +kernel
theorem dX10_worst_60 : decode cX10_worst 60 = .ok (.istore_n 1, 1) := by decide +kernel
theorem dX10_worst_61 : decode cX10_worst 61 = .ok (.iinc 2 (-1), 3) := by decide +kernel
theorem dX10_worst_64 : decode cX10_worst 64 = .ok (.goto (-52), 3) := by decide +kernel
theorem dX10_worst_67 : decode cX10_worst 67 = .ok (.iload_n 1, 1) := by decide +kernel
theorem dX10_worst_68 : decode cX10_worst 68 = .ok (.ireturn, 1) := by decide +kernel
theorem dX10_firstRung_0 : decode cX10_firstRung 0 = .ok (.aload_n 0, 1) := by decide +kernel
theorem dX10_firstRung_1 : decode cX10_firstRung 1 = .ok (.invokevirtual 139, 3) := by decide +kernel
theorem dX10_firstRung_4 : decode cX10_firstRung 4 = .ok (.aload_n 0, 1) := by decide +kernel
theorem dX10_firstRung_5 : decode cX10_firstRung 5 = .ok (.getfield 31, 3) := by decide +kernel
theorem dX10_firstRung_8 : decode cX10_firstRung 8 = .ok (.bipush 15, 2) := by decide +kernel
theorem dX10_firstRung_10 : decode cX10_firstRung 10 = .ok (.iaload, 1) := by decide +kernel
theorem dX10_firstRung_11 : decode cX10_firstRung 11 = .ok (.istore_n 1, 1) := by decide +kernel
theorem dX10_firstRung_12 : decode cX10_firstRung 12 = .ok (.iload_n 1, 1) := by decide +kernel
theorem dX10_firstRung_13 : decode cX10_firstRung 13 = .ok (.sipush 240, 3) := by decide +kernel
theorem dX10_firstRung_16 : decode cX10_firstRung 16 = .ok (.if_icmp .ge 19, 3) := by decide +kernel
theorem dX10_firstRung_19 : decode cX10_firstRung 19 = .ok (.aload_n 0, 1) := by decide +kernel
theorem dX10_firstRung_20 : decode cX10_firstRung 20 = .ok (.iload_n 1, 1) := by decide +kernel
theorem dX10_firstRung_21 : decode cX10_firstRung 21 = .ok (.invokevirtual 145, 3) := by decide +kernel
theorem dX10_firstRung_24 : decode cX10_firstRung 24 = .ok (.ifCond .eq 5, 3) := by decide +kernel
theorem dX10_firstRung_27 : decode cX10_firstRung 27 = .ok (.iload_n 1, 1) := by decide +kernel
theorem dX10_firstRung_28 : decode cX10_firstRung 28 = .ok (.ireturn, 1) := by decide +kernel
theorem dX10_firstRung_29 : decode cX10_firstRung 29 = .ok (.iinc 1 1, 3) := by decide +kernel
theorem dX10_firstRung_32 : decode cX10_firstRung 32 = .ok (.goto (-20), 3) := by decide +kernel
theorem dX10_firstRung_35 : decode cX10_firstRung 35 = .ok (.bipush (-9), 2) := by decide +kernel
theorem dX10_firstRung_37 : decode cX10_firstRung 37 = .ok (.ireturn, 1) := by decide +kernel
theorem dX10_now_0 : decode cX10_now 0 = .ok (.aload_n 0, 1) := by decide +kernel
theorem dX10_now_1 : decode cX10_now 1 = .ok (.iconst 0, 1) := by decide +kernel
theorem dX10_now_2 : decode cX10_now 2 = .ok (.putfield 62, 3) := by decide +kernel
theorem dX10_now_5 : decode cX10_now 5 = .ok (.iload_n 1, 1) := by decide +kernel
theorem dX10_now_6 : decode cX10_now 6 = .ok (.iconst 0, 1) := by decide +kernel
theorem dX10_now_7 : decode cX10_now 7 = .ok (.iconst 5, 1) := by decide +kernel
theorem dX10_now_8 : decode cX10_now 8 = .ok (.invokestatic 66, 3) := by decide +kernel
theorem dX10_now_11 : decode cX10_now 11 = .ok (.ifCond .ne 5, 3) := by decide +kernel
theorem dX10_now_14 : decode cX10_now 14 = .ok (.iconst (-1), 1) := by decide +kernel
theorem dX10_now_15 : decode cX10_now 15 = .ok (.ireturn, 1) := by decide +kernel
theorem dX10_now_16 : decode cX10_now 16 = .ok (.iconst 0, 1) := by decide +kernel
theorem dX10_now_17 : decode cX10_now 17 = .ok (.istore_n 2, 1) := by decide +kernel
theorem dX10_now_18 : decode cX10_now 18 = .ok (.iconst 0, 1) := by decide +kernel
theorem dX10_now_19 : decode cX10_now 19 = .ok (.istore_n 3, 1) := by decide +kernel
theorem dX10_now_20 : decode cX10_now 20 = .ok (.iload_n 3, 1) := by decide +kernel
theorem dX10_now_21 : decode cX10_now 21 = .ok (.aload_n 0, 1) := by decide +kernel
theorem dX10_now_22 : decode cX10_now 22 = .ok (.getfield 13, 3) := by decide +kernel
theorem dX10_now_25 : decode cX10_now 25 = .ok (.iconst 1, 1) := by decide +kernel
theorem dX10_now_26 : decode cX10_now 26 = .ok (.iaload, 1) := by decide +kernel
theorem dX10_now_27 : decode cX10_now 27 = .ok (.if_icmp .ge 21, 3) := by decide +kernel
theorem dX10_now_30 : decode cX10_now 30 = .ok (.iload_n 2, 1) := by decide +kernel
theorem dX10_now_31 : decode cX10_now 31 = .ok (.aload_n 0, 1) := by decide +kernel
theorem dX10_now_32 : decode cX10_now 32 = .ok (.getfield 31, 3) := by decide +kernel
theorem dX10_now_35 : decode cX10_now 35 = .ok (.bipush 10, 2) := by decide +kernel
theorem dX10_now_37 : decode cX10_now 37 = .ok (.iload_n 3, 1) := by decide +kernel
theorem dX10_now_38 : decode cX10_now 38 = .ok (.iadd, 1) := by decide +kernel
theorem dX10_now_39 : decode cX10_now 39 = .ok (.iaload, 1) := by decide +kernel
theorem dX10_now_40 : decode cX10_now 40 = .ok (.iadd, 1) := by decide +kernel
theorem dX10_now_41 : decode cX10_now 41 = .ok (.istore_n 2, 1) := by decide +kernel
theorem dX10_now_42 : decode cX10_now 42 = .ok (.iinc 3 1, 3) := by decide +kernel
theorem dX10_now_45 : decode cX10_now 45 = .ok (.goto (-25), 3) := by decide +kernel
theorem dX10_now_48 : decode cX10_now 48 = .ok (.iload_n 1, 1) := by decide +kernel
theorem dX10_now_49 : decode cX10_now 49 = .ok (.iconst 2, 1) := by decide +kernel
theorem dX10_now_50 : decode cX10_now 50 = .ok (.if_icmp .ge 15, 3) := by decide +kernel
theorem dX10_now_53 : decode cX10_now 53 = .ok (.aload_n 0, 1) := by decide +kernel
theorem dX10_now_54 : decode cX10_now 54 = .ok (.getfield 31, 3) := by decide +kernel
theorem dX10_now_57 : decode cX10_now 57 = .ok (.bipush 15, 2) := by decide +kernel
theorem dX10_now_59 : decode cX10_now 59 = .ok (.iload_n 1, 1) := by decide +kernel
theorem dX10_now_60 : decode cX10_now 60 = .ok (.iadd, 1) := by decide +kernel
theorem dX10_now_61 : decode cX10_now 61 = .ok (.iaload, 1) := by decide +kernel
theorem dX10_now_62 : decode cX10_now 62 = .ok (.goto 40, 3) := by decide +kernel
theorem dX10_now_65 : decode cX10_now 65 = .ok (.iload_n 1, 1) := by decide +kernel
theorem dX10_now_66 : decode cX10_now 66 = .ok (.iconst 2, 1) := by decide +kernel
theorem dX10_now_67 : decode cX10_now 67 = .ok (.if_icmp .ne 7, 3) := by decide +kernel
theorem dX10_now_70 : decode cX10_now 70 = .ok (.iload_n 2, 1) := by decide +kernel
theorem dX10_now_71 : decode cX10_now 71 = .ok (.goto 31, 3) := by decide +kernel
theorem dX10_now_74 : decode cX10_now 74 = .ok (.iload_n 1, 1) := by decide +kernel
theorem dX10_now_75 : decode cX10_now 75 = .ok (.iconst 3, 1) := by decide +kernel
theorem dX10_now_76 : decode cX10_now 76 = .ok (.if_icmp .ne 10, 3) := by decide +kernel
theorem dX10_now_79 : decode cX10_now 79 = .ok (.aload_n 0, 1) := by decide +kernel
theorem dX10_now_80 : decode cX10_now 80 = .ok (.invokevirtual 148, 3) := by decide +kernel
theorem dX10_now_83 : decode cX10_now 83 = .ok (.goto 19, 3) := by decide +kernel
theorem dX10_now_86 : decode cX10_now 86 = .ok (.iload_n 1, 1) := by decide +kernel
theorem dX10_now_87 : decode cX10_now 87 = .ok (.iconst 4, 1) := by decide +kernel
theorem dX10_now_88 : decode cX10_now 88 = .ok (.if_icmp .ne 10, 3) := by decide +kernel
theorem dX10_now_91 : decode cX10_now 91 = .ok (.aload_n 0, 1) := by decide +kernel
theorem dX10_now_92 : decode cX10_now 92 = .ok (.invokevirtual 152, 3) := by decide +kernel
theorem dX10_now_95 : decode cX10_now 95 = .ok (.goto 7, 3) := by decide +kernel
theorem dX10_now_98 : decode cX10_now 98 = .ok (.aload_n 0, 1) := by decide +kernel
theorem dX10_now_99 : decode cX10_now 99 = .ok (.getfield 124, 3) := by decide +kernel
theorem dX10_now_102 : decode cX10_now 102 = .ok (.ireturn, 1) := by decide +kernel
theorem dX10_notes_0 : decode cX10_notes 0 = .ok (.aload_n 0, 1) := by decide +kernel
theorem dX10_notes_1 : decode cX10_notes 1 = .ok (.getfield 124, 3) := by decide +kernel
theorem dX10_notes_4 : decode cX10_notes 4 = .ok (.bipush 10, 2) := by decide +kernel
theorem dX10_notes_6 : decode cX10_notes 6 = .ok (.if_icmp .ne 39, 3) := by decide +kernel
theorem dX10_notes_9 : decode cX10_notes 9 = .ok (.iconst 0, 1) := by decide +kernel
theorem dX10_notes_10 : decode cX10_notes 10 = .ok (.istore_n 1, 1) := by decide +kernel
theorem dX10_notes_11 : decode cX10_notes 11 = .ok (.iload_n 1, 1) := by decide +kernel
theorem dX10_notes_12 : decode cX10_notes 12 = .ok (.sipush 225, 3) := by decide +kernel
theorem dX10_notes_15 : decode cX10_notes 15 = .ok (.if_icmp .ge 24, 3) := by decide +kernel
theorem dX10_notes_18 : decode cX10_notes 18 = .ok (.aload_n 0, 1) := by decide +kernel
theorem dX10_notes_19 : decode cX10_notes 19 = .ok (.getfield 41, 3) := by decide +kernel
theorem dX10_notes_22 : decode cX10_notes 22 = .ok (.iload_n 1, 1) := by decide +kernel
theorem dX10_notes_23 : decode cX10_notes 23 = .ok (.aload_n 0, 1) := by decide +kernel
theorem dX10_notes_24 : decode cX10_notes 24 = .ok (.getfield 41, 3) := by decide +kernel
theorem dX10_notes_27 : decode cX10_notes 27 = .ok (.iload_n 1, 1) := by decide +kernel
theorem dX10_notes_28 : decode cX10_notes 28 = .ok (.bipush 25, 2) := by decide +kernel
theorem dX10_notes_30 : decode cX10_notes 30 = .ok (.iadd, 1) := by decide +kernel
theorem dX10_notes_31 : decode cX10_notes 31 = .ok (.iaload, 1) := by decide +kernel
theorem dX10_notes_32 : decode cX10_notes 32 = .ok (.iastore, 1) := by decide +kernel
theorem dX10_notes_33 : decode cX10_notes 33 = .ok (.iinc 1 1, 3) := by decide +kernel
theorem dX10_notes_36 : decode cX10_notes 36 = .ok (.goto (-25), 3) := by decide +kernel
theorem dX10_notes_39 : decode cX10_notes 39 = .ok (.aload_n 0, 1) := by decide +kernel
theorem dX10_notes_40 : decode cX10_notes 40 = .ok (.bipush 9, 2) := by decide +kernel
theorem dX10_notes_42 : decode cX10_notes 42 = .ok (.putfield 124, 3) := by decide +kernel
theorem dX10_notes_45 : decode cX10_notes 45 = .ok (.iconst 0, 1) := by decide +kernel
theorem dX10_notes_46 : decode cX10_notes 46 = .ok (.istore_n 1, 1) := by decide +kernel
theorem dX10_notes_47 : decode cX10_notes 47 = .ok (.iload_n 1, 1) := by decide +kernel
theorem dX10_notes_48 : decode cX10_notes 48 = .ok (.bipush 25, 2) := by decide +kernel
theorem dX10_notes_50 : decode cX10_notes 50 = .ok (.if_icmp .ge 29, 3) := by decide +kernel
theorem dX10_notes_53 : decode cX10_notes 53 = .ok (.aload_n 0, 1) := by decide +kernel
theorem dX10_notes_54 : decode cX10_notes 54 = .ok (.getfield 41, 3) := by decide +kernel
theorem dX10_notes_57 : decode cX10_notes 57 = .ok (.bipush 25, 2) := by decide +kernel
theorem dX10_notes_59 : decode cX10_notes 59 = .ok (.aload_n 0, 1) := by decide +kernel
theorem dX10_notes_60 : decode cX10_notes 60 = .ok (.getfield 124, 3) := by decide +kernel
theorem dX10_notes_63 : decode cX10_notes 63 = .ok (.imul, 1) := by decide +kernel
theorem dX10_notes_64 : decode cX10_notes 64 = .ok (.iload_n 1, 1) := by decide +kernel
theorem dX10_notes_65 : decode cX10_notes 65 = .ok (.iadd, 1) := by decide +kernel
theorem dX10_notes_66 : decode cX10_notes 66 = .ok (.aload_n 0, 1) := by decide +kernel
theorem dX10_notes_67 : decode cX10_notes 67 = .ok (.getfield 31, 3) := by decide +kernel
theorem dX10_notes_70 : decode cX10_notes 70 = .ok (.iload_n 1, 1) := by decide +kernel
theorem dX10_notes_71 : decode cX10_notes 71 = .ok (.iaload, 1) := by decide +kernel
theorem dX10_notes_72 : decode cX10_notes 72 = .ok (.iastore, 1) := by decide +kernel
theorem dX10_notes_73 : decode cX10_notes 73 = .ok (.iinc 1 1, 3) := by decide +kernel
theorem dX10_notes_76 : decode cX10_notes 76 = .ok (.goto (-29), 3) := by decide +kernel
theorem dX10_notes_79 : decode cX10_notes 79 = .ok (.aload_n 0, 1) := by decide +kernel
theorem dX10_notes_80 : decode cX10_notes 80 = .ok (.dup, 1) := by decide +kernel
theorem dX10_notes_81 : decode cX10_notes 81 = .ok (.getfield 124, 3) := by decide +kernel
theorem dX10_notes_84 : decode cX10_notes 84 = .ok (.iconst 1, 1) := by decide +kernel
theorem dX10_notes_85 : decode cX10_notes 85 = .ok (.iadd, 1) := by decide +kernel
theorem dX10_notes_86 : decode cX10_notes 86 = .ok (.putfield 124, 3) := by decide +kernel
theorem dX10_notes_89 : decode cX10_notes 89 = .ok (.return_, 1) := by decide +kernel
theorem dX10_walk_0 : decode cX10_walk 0 = .ok (.aload_n 0, 1) := by decide +kernel
theorem dX10_walk_1 : decode cX10_walk 1 = .ok (.getfield 13, 3) := by decide +kernel
theorem dX10_walk_4 : decode cX10_walk 4 = .ok (.iconst 3, 1) := by decide +kernel
theorem dX10_walk_5 : decode cX10_walk 5 = .ok (.iaload, 1) := by decide +kernel
theorem dX10_walk_6 : decode cX10_walk 6 = .ok (.iload_n 1, 1) := by decide +kernel
theorem dX10_walk_7 : decode cX10_walk 7 = .ok (.iload_n 2, 1) := by decide +kernel
theorem dX10_walk_8 : decode cX10_walk 8 = .ok (.if_icmp .ge 9, 3) := by decide +kernel
theorem dX10_walk_11 : decode cX10_walk 11 = .ok (.iload_n 2, 1) := by decide +kernel
theorem dX10_walk_12 : decode cX10_walk 12 = .ok (.iload_n 1, 1) := by decide +kernel
theorem dX10_walk_13 : decode cX10_walk 13 = .ok (.isub, 1) := by decide +kernel
theorem dX10_walk_14 : decode cX10_walk 14 = .ok (.goto 6, 3) := by decide +kernel
theorem dX10_walk_17 : decode cX10_walk 17 = .ok (.iload_n 1, 1) := by decide +kernel
theorem dX10_walk_18 : decode cX10_walk 18 = .ok (.iload_n 2, 1) := by decide +kernel
theorem dX10_walk_19 : decode cX10_walk 19 = .ok (.isub, 1) := by decide +kernel
theorem dX10_walk_20 : decode cX10_walk 20 = .ok (.imul, 1) := by decide +kernel
theorem dX10_walk_21 : decode cX10_walk 21 = .ok (.ireturn, 1) := by decide +kernel
theorem dX10_goes_0 : decode cX10_goes 0 = .ok (.aload_n 0, 1) := by decide +kernel
theorem dX10_goes_1 : decode cX10_goes 1 = .ok (.iconst 0, 1) := by decide +kernel
theorem dX10_goes_2 : decode cX10_goes 2 = .ok (.putfield 62, 3) := by decide +kernel
theorem dX10_goes_5 : decode cX10_goes 5 = .ok (.aload_n 0, 1) := by decide +kernel
theorem dX10_goes_6 : decode cX10_goes 6 = .ok (.iload_n 1, 1) := by decide +kernel
theorem dX10_goes_7 : decode cX10_goes 7 = .ok (.invokevirtual 136, 3) := by decide +kernel
theorem dX10_goes_10 : decode cX10_goes 10 = .ok (.ifCond .eq 11, 3) := by decide +kernel
theorem dX10_goes_13 : decode cX10_goes 13 = .ok (.aload_n 0, 1) := by decide +kernel
theorem dX10_goes_14 : decode cX10_goes 14 = .ok (.iload_n 2, 1) := by decide +kernel
theorem dX10_goes_15 : decode cX10_goes 15 = .ok (.invokevirtual 155, 3) := by decide +kernel
theorem dX10_goes_18 : decode cX10_goes 18 = .ok (.ifCond .ne 5, 3) := by decide +kernel
theorem dX10_goes_21 : decode cX10_goes 21 = .ok (.iconst (-1), 1) := by decide +kernel
theorem dX10_goes_22 : decode cX10_goes 22 = .ok (.ireturn, 1) := by decide +kernel
theorem dX10_goes_23 : decode cX10_goes 23 = .ok (.aload_n 0, 1) := by decide +kernel
theorem dX10_goes_24 : decode cX10_goes 24 = .ok (.getfield 31, 3) := by decide +kernel
theorem dX10_goes_27 : decode cX10_goes 27 = .ok (.iconst 5, 1) := by decide +kernel
theorem dX10_goes_28 : decode cX10_goes 28 = .ok (.iload_n 1, 1) := by decide +kernel
theorem dX10_goes_29 : decode cX10_goes 29 = .ok (.iadd, 1) := by decide +kernel
theorem dX10_goes_30 : decode cX10_goes 30 = .ok (.iaload, 1) := by decide +kernel
theorem dX10_goes_31 : decode cX10_goes 31 = .ok (.ifCond .gt 15, 3) := by decide +kernel
theorem dX10_goes_34 : decode cX10_goes 34 = .ok (.aload_n 0, 1) := by decide +kernel
theorem dX10_goes_35 : decode cX10_goes 35 = .ok (.getfield 31, 3) := by decide +kernel
theorem dX10_goes_38 : decode cX10_goes 38 = .ok (.iconst 0, 1) := by decide +kernel
theorem dX10_goes_39 : decode cX10_goes 39 = .ok (.iload_n 1, 1) := by decide +kernel
theorem dX10_goes_40 : decode cX10_goes 40 = .ok (.iadd, 1) := by decide +kernel
theorem dX10_goes_41 : decode cX10_goes 41 = .ok (.iaload, 1) := by decide +kernel
theorem dX10_goes_42 : decode cX10_goes 42 = .ok (.iload_n 2, 1) := by decide +kernel
theorem dX10_goes_43 : decode cX10_goes 43 = .ok (.if_icmp .ne 6, 3) := by decide +kernel
theorem dX10_goes_46 : decode cX10_goes 46 = .ok (.bipush (-2), 2) := by decide +kernel
theorem dX10_goes_48 : decode cX10_goes 48 = .ok (.ireturn, 1) := by decide +kernel
theorem dX10_goes_49 : decode cX10_goes 49 = .ok (.aload_n 0, 1) := by decide +kernel
theorem dX10_goes_50 : decode cX10_goes 50 = .ok (.invokevirtual 158, 3) := by decide +kernel
theorem dX10_goes_53 : decode cX10_goes 53 = .ok (.aload_n 0, 1) := by decide +kernel
theorem dX10_goes_54 : decode cX10_goes 54 = .ok (.getfield 31, 3) := by decide +kernel
theorem dX10_goes_57 : decode cX10_goes 57 = .ok (.iconst 5, 1) := by decide +kernel
theorem dX10_goes_58 : decode cX10_goes 58 = .ok (.iload_n 1, 1) := by decide +kernel
theorem dX10_goes_59 : decode cX10_goes 59 = .ok (.iadd, 1) := by decide +kernel
theorem dX10_goes_60 : decode cX10_goes 60 = .ok (.aload_n 0, 1) := by decide +kernel
theorem dX10_goes_61 : decode cX10_goes 61 = .ok (.aload_n 0, 1) := by decide +kernel
theorem dX10_goes_62 : decode cX10_goes 62 = .ok (.getfield 31, 3) := by decide +kernel
theorem dX10_goes_65 : decode cX10_goes 65 = .ok (.iconst 0, 1) := by decide +kernel
theorem dX10_goes_66 : decode cX10_goes 66 = .ok (.iload_n 1, 1) := by decide +kernel
theorem dX10_goes_67 : decode cX10_goes 67 = .ok (.iadd, 1) := by decide +kernel
theorem dX10_goes_68 : decode cX10_goes 68 = .ok (.iaload, 1) := by decide +kernel
theorem dX10_goes_69 : decode cX10_goes 69 = .ok (.iload_n 2, 1) := by decide +kernel
theorem dX10_goes_70 : decode cX10_goes 70 = .ok (.invokevirtual 161, 3) := by decide +kernel
theorem dX10_goes_73 : decode cX10_goes 73 = .ok (.iastore, 1) := by decide +kernel
theorem dX10_goes_74 : decode cX10_goes 74 = .ok (.aload_n 0, 1) := by decide +kernel
theorem dX10_goes_75 : decode cX10_goes 75 = .ok (.getfield 31, 3) := by decide +kernel
theorem dX10_goes_78 : decode cX10_goes 78 = .ok (.iconst 0, 1) := by decide +kernel
theorem dX10_goes_79 : decode cX10_goes 79 = .ok (.iload_n 1, 1) := by decide +kernel
theorem dX10_goes_80 : decode cX10_goes 80 = .ok (.iadd, 1) := by decide +kernel
theorem dX10_goes_81 : decode cX10_goes 81 = .ok (.iload_n 2, 1) := by decide +kernel
theorem dX10_goes_82 : decode cX10_goes 82 = .ok (.iastore, 1) := by decide +kernel
theorem dX10_goes_83 : decode cX10_goes 83 = .ok (.aload_n 0, 1) := by decide +kernel
theorem dX10_goes_84 : decode cX10_goes 84 = .ok (.getfield 31, 3) := by decide +kernel
theorem dX10_goes_87 : decode cX10_goes 87 = .ok (.iconst 5, 1) := by decide +kernel
theorem dX10_goes_88 : decode cX10_goes 88 = .ok (.iload_n 1, 1) := by decide +kernel
theorem dX10_goes_89 : decode cX10_goes 89 = .ok (.iadd, 1) := by decide +kernel
theorem dX10_goes_90 : decode cX10_goes 90 = .ok (.iaload, 1) := by decide +kernel
theorem dX10_goes_91 : decode cX10_goes 91 = .ok (.ireturn, 1) := by decide +kernel
theorem dX10_passes_0 : decode cX10_passes 0 = .ok (.aload_n 0, 1) := by decide +kernel
theorem dX10_passes_1 : decode cX10_passes 1 = .ok (.iconst 0, 1) := by decide +kernel
theorem dX10_passes_2 : decode cX10_passes 2 = .ok (.putfield 62, 3) := by decide +kernel
theorem dX10_passes_5 : decode cX10_passes 5 = .ok (.iload_n 1, 1) := by decide +kernel
theorem dX10_passes_6 : decode cX10_passes 6 = .ok (.iconst 1, 1) := by decide +kernel
theorem dX10_passes_7 : decode cX10_passes 7 = .ok (.sipush 240, 3) := by decide +kernel
theorem dX10_passes_10 : decode cX10_passes 10 = .ok (.invokestatic 66, 3) := by decide +kernel
theorem dX10_passes_13 : decode cX10_passes 13 = .ok (.ifCond .ne 5, 3) := by decide +kernel
theorem dX10_passes_16 : decode cX10_passes 16 = .ok (.iconst (-1), 1) := by decide +kernel
theorem dX10_passes_17 : decode cX10_passes 17 = .ok (.ireturn, 1) := by decide +kernel
theorem dX10_passes_18 : decode cX10_passes 18 = .ok (.aload_n 0, 1) := by decide +kernel
theorem dX10_passes_19 : decode cX10_passes 19 = .ok (.getfield 31, 3) := by decide +kernel
theorem dX10_passes_22 : decode cX10_passes 22 = .ok (.bipush 15, 2) := by decide +kernel
theorem dX10_passes_24 : decode cX10_passes 24 = .ok (.iaload, 1) := by decide +kernel
theorem dX10_passes_25 : decode cX10_passes 25 = .ok (.iload_n 1, 1) := by decide +kernel
theorem dX10_passes_26 : decode cX10_passes 26 = .ok (.iadd, 1) := by decide +kernel
theorem dX10_passes_27 : decode cX10_passes 27 = .ok (.sipush 240, 3) := by decide +kernel
theorem dX10_passes_30 : decode cX10_passes 30 = .ok (.if_icmp .le 6, 3) := by decide +kernel
theorem dX10_passes_33 : decode cX10_passes 33 = .ok (.bipush (-2), 2) := by decide +kernel
theorem dX10_passes_35 : decode cX10_passes 35 = .ok (.ireturn, 1) := by decide +kernel
theorem dX10_passes_36 : decode cX10_passes 36 = .ok (.aload_n 0, 1) := by decide +kernel
theorem dX10_passes_37 : decode cX10_passes 37 = .ok (.invokevirtual 158, 3) := by decide +kernel
theorem dX10_passes_40 : decode cX10_passes 40 = .ok (.aload_n 0, 1) := by decide +kernel
theorem dX10_passes_41 : decode cX10_passes 41 = .ok (.invokevirtual 139, 3) := by decide +kernel
theorem dX10_passes_44 : decode cX10_passes 44 = .ok (.iconst 0, 1) := by decide +kernel
theorem dX10_passes_45 : decode cX10_passes 45 = .ok (.istore_n 2, 1) := by decide +kernel
theorem dX10_passes_46 : decode cX10_passes 46 = .ok (.iconst 0, 1) := by decide +kernel
theorem dX10_passes_47 : decode cX10_passes 47 = .ok (.istore_n 3, 1) := by decide +kernel
theorem dX10_passes_48 : decode cX10_passes 48 = .ok (.iload_n 3, 1) := by decide +kernel
theorem dX10_passes_49 : decode cX10_passes 49 = .ok (.iload_n 1, 1) := by decide +kernel
theorem dX10_passes_50 : decode cX10_passes 50 = .ok (.if_icmp .ge 110, 3) := by decide +kernel
theorem dX10_passes_53 : decode cX10_passes 53 = .ok (.aload_n 0, 1) := by decide +kernel
theorem dX10_passes_54 : decode cX10_passes 54 = .ok (.aload_n 0, 1) := by decide +kernel
theorem dX10_passes_55 : decode cX10_passes 55 = .ok (.getfield 31, 3) := by decide +kernel
theorem dX10_passes_58 : decode cX10_passes 58 = .ok (.bipush 15, 2) := by decide +kernel
theorem dX10_passes_60 : decode cX10_passes 60 = .ok (.iaload, 1) := by decide +kernel
theorem dX10_passes_61 : decode cX10_passes 61 = .ok (.invokevirtual 145, 3) := by decide +kernel
theorem dX10_passes_64 : decode cX10_passes 64 = .ok (.istore 4, 2) := by decide +kernel
theorem dX10_passes_66 : decode cX10_passes 66 = .ok (.iconst 0, 1) := by decide +kernel
theorem dX10_passes_67 : decode cX10_passes 67 = .ok (.istore 5, 2) := by decide +kernel
theorem dX10_passes_69 : decode cX10_passes 69 = .ok (.iload 5, 2) := by decide +kernel
theorem dX10_passes_71 : decode cX10_passes 71 = .ok (.aload_n 0, 1) := by decide +kernel
theorem dX10_passes_72 : decode cX10_passes 72 = .ok (.getfield 13, 3) := by decide +kernel
theorem dX10_passes_75 : decode cX10_passes 75 = .ok (.iconst 1, 1) := by decide +kernel
theorem dX10_passes_76 : decode cX10_passes 76 = .ok (.iaload, 1) := by decide +kernel
theorem dX10_passes_77 : decode cX10_passes 77 = .ok (.if_icmp .ge 58, 3) := by decide +kernel
theorem dX10_passes_80 : decode cX10_passes 80 = .ok (.aload_n 0, 1) := by decide +kernel
theorem dX10_passes_81 : decode cX10_passes 81 = .ok (.getfield 31, 3) := by decide +kernel
theorem dX10_passes_84 : decode cX10_passes 84 = .ok (.bipush 10, 2) := by decide +kernel
theorem dX10_passes_86 : decode cX10_passes 86 = .ok (.iload 5, 2) := by decide +kernel
theorem dX10_passes_88 : decode cX10_passes 88 = .ok (.iadd, 1) := by decide +kernel
theorem dX10_passes_89 : decode cX10_passes 89 = .ok (.dup2, 1) := by decide +kernel
theorem dX10_passes_90 : decode cX10_passes 90 = .ok (.iaload, 1) := by decide +kernel
theorem dX10_passes_91 : decode cX10_passes 91 = .ok (.iload 4, 2) := by decide +kernel
theorem dX10_passes_93 : decode cX10_passes 93 = .ok (.iload 5, 2) := by decide +kernel
theorem dX10_passes_95 : decode cX10_passes 95 = .ok (.ishr, 1) := by decide +kernel
theorem dX10_passes_96 : decode cX10_passes 96 = .ok (.iconst 1, 1) := by decide +kernel
theorem dX10_passes_97 : decode cX10_passes 97 = .ok (.iand, 1) := by decide +kernel
theorem dX10_passes_98 : decode cX10_passes 98 = .ok (.iadd, 1) := by decide +kernel
theorem dX10_passes_99 : decode cX10_passes 99 = .ok (.iastore, 1) := by decide +kernel
theorem dX10_passes_100 : decode cX10_passes 100 = .ok (.aload_n 0, 1) := by decide +kernel
theorem dX10_passes_101 : decode cX10_passes 101 = .ok (.getfield 31, 3) := by decide +kernel
theorem dX10_passes_104 : decode cX10_passes 104 = .ok (.iconst 5, 1) := by decide +kernel
theorem dX10_passes_105 : decode cX10_passes 105 = .ok (.iload 5, 2) := by decide +kernel
theorem dX10_passes_107 : decode cX10_passes 107 = .ok (.iadd, 1) := by decide +kernel
theorem dX10_passes_108 : decode cX10_passes 108 = .ok (.dup2, 1) := by decide +kernel
theorem dX10_passes_109 : decode cX10_passes 109 = .ok (.iaload, 1) := by decide +kernel
theorem dX10_passes_110 : decode cX10_passes 110 = .ok (.aload_n 0, 1) := by decide +kernel
theorem dX10_passes_111 : decode cX10_passes 111 = .ok (.getfield 31, 3) := by decide +kernel
theorem dX10_passes_114 : decode cX10_passes 114 = .ok (.iconst 5, 1) := by decide +kernel
theorem dX10_passes_115 : decode cX10_passes 115 = .ok (.iload 5, 2) := by decide +kernel
theorem dX10_passes_117 : decode cX10_passes 117 = .ok (.iadd, 1) := by decide +kernel
theorem dX10_passes_118 : decode cX10_passes 118 = .ok (.iaload, 1) := by decide +kernel
theorem dX10_passes_119 : decode cX10_passes 119 = .ok (.ifCond .le 7, 3) := by decide +kernel
theorem dX10_passes_122 : decode cX10_passes 122 = .ok (.iconst 1, 1) := by decide +kernel
theorem dX10_passes_123 : decode cX10_passes 123 = .ok (.goto 4, 3) := by decide +kernel
theorem dX10_passes_126 : decode cX10_passes 126 = .ok (.iconst 0, 1) := by decide +kernel
theorem dX10_passes_127 : decode cX10_passes 127 = .ok (.isub, 1) := by decide +kernel
theorem dX10_passes_128 : decode cX10_passes 128 = .ok (.iastore, 1) := by decide +kernel
theorem dX10_passes_129 : decode cX10_passes 129 = .ok (.iinc 5 1, 3) := by decide +kernel
theorem dX10_passes_132 : decode cX10_passes 132 = .ok (.goto (-63), 3) := by decide +kernel
theorem dX10_passes_135 : decode cX10_passes 135 = .ok (.iload_n 2, 1) := by decide +kernel
theorem dX10_passes_136 : decode cX10_passes 136 = .ok (.iload 4, 2) := by decide +kernel
theorem dX10_passes_138 : decode cX10_passes 138 = .ok (.invokestatic 164, 3) := by decide +kernel
theorem dX10_passes_141 : decode cX10_passes 141 = .ok (.iadd, 1) := by decide +kernel
theorem dX10_passes_142 : decode cX10_passes 142 = .ok (.istore_n 2, 1) := by decide +kernel
theorem dX10_passes_143 : decode cX10_passes 143 = .ok (.aload_n 0, 1) := by decide +kernel
theorem dX10_passes_144 : decode cX10_passes 144 = .ok (.getfield 31, 3) := by decide +kernel
theorem dX10_passes_147 : decode cX10_passes 147 = .ok (.bipush 15, 2) := by decide +kernel
theorem dX10_passes_149 : decode cX10_passes 149 = .ok (.dup2, 1) := by decide +kernel
theorem dX10_passes_150 : decode cX10_passes 150 = .ok (.iaload, 1) := by decide +kernel
theorem dX10_passes_151 : decode cX10_passes 151 = .ok (.iconst 1, 1) := by decide +kernel
theorem dX10_passes_152 : decode cX10_passes 152 = .ok (.iadd, 1) := by decide +kernel
theorem dX10_passes_153 : decode cX10_passes 153 = .ok (.iastore, 1) := by decide +kernel
theorem dX10_passes_154 : decode cX10_passes 154 = .ok (.iinc 3 1, 3) := by decide +kernel
theorem dX10_passes_157 : decode cX10_passes 157 = .ok (.goto (-109), 3) := by decide +kernel
theorem dX10_passes_160 : decode cX10_passes 160 = .ok (.iload_n 2, 1) := by decide +kernel
theorem dX10_passes_161 : decode cX10_passes 161 = .ok (.ireturn, 1) := by decide +kernel
theorem dX10_excuses_0 : decode cX10_excuses 0 = .ok (.aload_n 0, 1) := by decide +kernel
theorem dX10_excuses_1 : decode cX10_excuses 1 = .ok (.iconst 0, 1) := by decide +kernel
theorem dX10_excuses_2 : decode cX10_excuses 2 = .ok (.putfield 62, 3) := by decide +kernel
theorem dX10_excuses_5 : decode cX10_excuses 5 = .ok (.aload_n 0, 1) := by decide +kernel
theorem dX10_excuses_6 : decode cX10_excuses 6 = .ok (.iload_n 1, 1) := by decide +kernel
theorem dX10_excuses_7 : decode cX10_excuses 7 = .ok (.invokevirtual 142, 3) := by decide +kernel
theorem dX10_excuses_10 : decode cX10_excuses 10 = .ok (.ifCond .eq 12, 3) := by decide +kernel
theorem dX10_excuses_13 : decode cX10_excuses 13 = .ok (.iload_n 2, 1) := by decide +kernel
theorem dX10_excuses_14 : decode cX10_excuses 14 = .ok (.iconst 0, 1) := by decide +kernel
theorem dX10_excuses_15 : decode cX10_excuses 15 = .ok (.iconst 1, 1) := by decide +kernel
theorem dX10_excuses_16 : decode cX10_excuses 16 = .ok (.invokestatic 66, 3) := by decide +kernel
theorem dX10_excuses_19 : decode cX10_excuses 19 = .ok (.ifCond .ne 5, 3) := by decide +kernel
theorem dX10_excuses_22 : decode cX10_excuses 22 = .ok (.iconst (-1), 1) := by decide +kernel
theorem dX10_excuses_23 : decode cX10_excuses 23 = .ok (.ireturn, 1) := by decide +kernel
theorem dX10_excuses_24 : decode cX10_excuses 24 = .ok (.aload_n 0, 1) := by decide +kernel
theorem dX10_excuses_25 : decode cX10_excuses 25 = .ok (.getfield 31, 3) := by decide +kernel
theorem dX10_excuses_28 : decode cX10_excuses 28 = .ok (.bipush 16, 2) := by decide +kernel
theorem dX10_excuses_30 : decode cX10_excuses 30 = .ok (.iaload, 1) := by decide +kernel
theorem dX10_excuses_31 : decode cX10_excuses 31 = .ok (.iload_n 1, 1) := by decide +kernel
theorem dX10_excuses_32 : decode cX10_excuses 32 = .ok (.ishr, 1) := by decide +kernel
theorem dX10_excuses_33 : decode cX10_excuses 33 = .ok (.iconst 1, 1) := by decide +kernel
theorem dX10_excuses_34 : decode cX10_excuses 34 = .ok (.iand, 1) := by decide +kernel
theorem dX10_excuses_35 : decode cX10_excuses 35 = .ok (.iload_n 2, 1) := by decide +kernel
theorem dX10_excuses_36 : decode cX10_excuses 36 = .ok (.if_icmp .ne 6, 3) := by decide +kernel
theorem dX10_excuses_39 : decode cX10_excuses 39 = .ok (.bipush (-2), 2) := by decide +kernel
theorem dX10_excuses_41 : decode cX10_excuses 41 = .ok (.ireturn, 1) := by decide +kernel
theorem dX10_excuses_42 : decode cX10_excuses 42 = .ok (.aload_n 0, 1) := by decide +kernel
theorem dX10_excuses_43 : decode cX10_excuses 43 = .ok (.invokevirtual 158, 3) := by decide +kernel
theorem dX10_excuses_46 : decode cX10_excuses 46 = .ok (.aload_n 0, 1) := by decide +kernel
theorem dX10_excuses_47 : decode cX10_excuses 47 = .ok (.getfield 31, 3) := by decide +kernel
theorem dX10_excuses_50 : decode cX10_excuses 50 = .ok (.bipush 16, 2) := by decide +kernel
theorem dX10_excuses_52 : decode cX10_excuses 52 = .ok (.aload_n 0, 1) := by decide +kernel
theorem dX10_excuses_53 : decode cX10_excuses 53 = .ok (.getfield 31, 3) := by decide +kernel
theorem dX10_excuses_56 : decode cX10_excuses 56 = .ok (.bipush 16, 2) := by decide +kernel
theorem dX10_excuses_58 : decode cX10_excuses 58 = .ok (.iaload, 1) := by decide +kernel
theorem dX10_excuses_59 : decode cX10_excuses 59 = .ok (.iconst 1, 1) := by decide +kernel
theorem dX10_excuses_60 : decode cX10_excuses 60 = .ok (.iload_n 1, 1) := by decide +kernel
theorem dX10_excuses_61 : decode cX10_excuses 61 = .ok (.ishl, 1) := by decide +kernel
theorem dX10_excuses_62 : decode cX10_excuses 62 = .ok (.iconst (-1), 1) := by decide +kernel
theorem dX10_excuses_63 : decode cX10_excuses 63 = .ok (.ixor, 1) := by decide +kernel
theorem dX10_excuses_64 : decode cX10_excuses 64 = .ok (.iand, 1) := by decide +kernel
theorem dX10_excuses_65 : decode cX10_excuses 65 = .ok (.iload_n 2, 1) := by decide +kernel
theorem dX10_excuses_66 : decode cX10_excuses 66 = .ok (.iload_n 1, 1) := by decide +kernel
theorem dX10_excuses_67 : decode cX10_excuses 67 = .ok (.ishl, 1) := by decide +kernel
theorem dX10_excuses_68 : decode cX10_excuses 68 = .ok (.ior, 1) := by decide +kernel
theorem dX10_excuses_69 : decode cX10_excuses 69 = .ok (.iastore, 1) := by decide +kernel
theorem dX10_excuses_70 : decode cX10_excuses 70 = .ok (.aload_n 0, 1) := by decide +kernel
theorem dX10_excuses_71 : decode cX10_excuses 71 = .ok (.getfield 31, 3) := by decide +kernel
theorem dX10_excuses_74 : decode cX10_excuses 74 = .ok (.bipush 16, 2) := by decide +kernel
theorem dX10_excuses_76 : decode cX10_excuses 76 = .ok (.iaload, 1) := by decide +kernel
theorem dX10_excuses_77 : decode cX10_excuses 77 = .ok (.invokestatic 164, 3) := by decide +kernel
theorem dX10_excuses_80 : decode cX10_excuses 80 = .ok (.ireturn, 1) := by decide +kernel
theorem dX10_swaps_0 : decode cX10_swaps 0 = .ok (.aload_n 0, 1) := by decide +kernel
theorem dX10_swaps_1 : decode cX10_swaps 1 = .ok (.iconst 0, 1) := by decide +kernel
theorem dX10_swaps_2 : decode cX10_swaps 2 = .ok (.putfield 62, 3) := by decide +kernel
theorem dX10_swaps_5 : decode cX10_swaps 5 = .ok (.aload_n 0, 1) := by decide +kernel
theorem dX10_swaps_6 : decode cX10_swaps 6 = .ok (.iload_n 1, 1) := by decide +kernel
theorem dX10_swaps_7 : decode cX10_swaps 7 = .ok (.invokevirtual 142, 3) := by decide +kernel
theorem dX10_swaps_10 : decode cX10_swaps 10 = .ok (.ifCond .eq 11, 3) := by decide +kernel
theorem dX10_swaps_13 : decode cX10_swaps 13 = .ok (.aload_n 0, 1) := by decide +kernel
theorem dX10_swaps_14 : decode cX10_swaps 14 = .ok (.iload_n 2, 1) := by decide +kernel
theorem dX10_swaps_15 : decode cX10_swaps 15 = .ok (.invokevirtual 142, 3) := by decide +kernel
theorem dX10_swaps_18 : decode cX10_swaps 18 = .ok (.ifCond .ne 5, 3) := by decide +kernel
theorem dX10_swaps_21 : decode cX10_swaps 21 = .ok (.iconst (-1), 1) := by decide +kernel
theorem dX10_swaps_22 : decode cX10_swaps 22 = .ok (.ireturn, 1) := by decide +kernel
theorem dX10_swaps_23 : decode cX10_swaps 23 = .ok (.aload_n 0, 1) := by decide +kernel
theorem dX10_swaps_24 : decode cX10_swaps 24 = .ok (.getfield 31, 3) := by decide +kernel
theorem dX10_swaps_27 : decode cX10_swaps 27 = .ok (.bipush 17, 2) := by decide +kernel
theorem dX10_swaps_29 : decode cX10_swaps 29 = .ok (.iload_n 1, 1) := by decide +kernel
theorem dX10_swaps_30 : decode cX10_swaps 30 = .ok (.iadd, 1) := by decide +kernel
theorem dX10_swaps_31 : decode cX10_swaps 31 = .ok (.iaload, 1) := by decide +kernel
theorem dX10_swaps_32 : decode cX10_swaps 32 = .ok (.aload_n 0, 1) := by decide +kernel
theorem dX10_swaps_33 : decode cX10_swaps 33 = .ok (.getfield 31, 3) := by decide +kernel
theorem dX10_swaps_36 : decode cX10_swaps 36 = .ok (.bipush 17, 2) := by decide +kernel
theorem dX10_swaps_38 : decode cX10_swaps 38 = .ok (.iload_n 2, 1) := by decide +kernel
theorem dX10_swaps_39 : decode cX10_swaps 39 = .ok (.iadd, 1) := by decide +kernel
theorem dX10_swaps_40 : decode cX10_swaps 40 = .ok (.iaload, 1) := by decide +kernel
theorem dX10_swaps_41 : decode cX10_swaps 41 = .ok (.if_icmp .ne 6, 3) := by decide +kernel
theorem dX10_swaps_44 : decode cX10_swaps 44 = .ok (.bipush (-2), 2) := by decide +kernel
theorem dX10_swaps_46 : decode cX10_swaps 46 = .ok (.ireturn, 1) := by decide +kernel
theorem dX10_swaps_47 : decode cX10_swaps 47 = .ok (.aload_n 0, 1) := by decide +kernel
theorem dX10_swaps_48 : decode cX10_swaps 48 = .ok (.invokevirtual 158, 3) := by decide +kernel
theorem dX10_swaps_51 : decode cX10_swaps 51 = .ok (.aload_n 0, 1) := by decide +kernel
theorem dX10_swaps_52 : decode cX10_swaps 52 = .ok (.getfield 31, 3) := by decide +kernel
theorem dX10_swaps_55 : decode cX10_swaps 55 = .ok (.bipush 17, 2) := by decide +kernel
theorem dX10_swaps_57 : decode cX10_swaps 57 = .ok (.iload_n 1, 1) := by decide +kernel
theorem dX10_swaps_58 : decode cX10_swaps 58 = .ok (.iadd, 1) := by decide +kernel
theorem dX10_swaps_59 : decode cX10_swaps 59 = .ok (.iaload, 1) := by decide +kernel
theorem dX10_swaps_60 : decode cX10_swaps 60 = .ok (.istore_n 3, 1) := by decide +kernel
theorem dX10_swaps_61 : decode cX10_swaps 61 = .ok (.aload_n 0, 1) := by decide +kernel
theorem dX10_swaps_62 : decode cX10_swaps 62 = .ok (.getfield 31, 3) := by decide +kernel
theorem dX10_swaps_65 : decode cX10_swaps 65 = .ok (.bipush 17, 2) := by decide +kernel
theorem dX10_swaps_67 : decode cX10_swaps 67 = .ok (.iload_n 1, 1) := by decide +kernel
theorem dX10_swaps_68 : decode cX10_swaps 68 = .ok (.iadd, 1) := by decide +kernel
theorem dX10_swaps_69 : decode cX10_swaps 69 = .ok (.aload_n 0, 1) := by decide +kernel
theorem dX10_swaps_70 : decode cX10_swaps 70 = .ok (.getfield 31, 3) := by decide +kernel
theorem dX10_swaps_73 : decode cX10_swaps 73 = .ok (.bipush 17, 2) := by decide +kernel
theorem dX10_swaps_75 : decode cX10_swaps 75 = .ok (.iload_n 2, 1) := by decide +kernel
theorem dX10_swaps_76 : decode cX10_swaps 76 = .ok (.iadd, 1) := by decide +kernel
theorem dX10_swaps_77 : decode cX10_swaps 77 = .ok (.iaload, 1) := by decide +kernel
theorem dX10_swaps_78 : decode cX10_swaps 78 = .ok (.iastore, 1) := by decide +kernel
theorem dX10_swaps_79 : decode cX10_swaps 79 = .ok (.aload_n 0, 1) := by decide +kernel
theorem dX10_swaps_80 : decode cX10_swaps 80 = .ok (.getfield 31, 3) := by decide +kernel
theorem dX10_swaps_83 : decode cX10_swaps 83 = .ok (.bipush 17, 2) := by decide +kernel
theorem dX10_swaps_85 : decode cX10_swaps 85 = .ok (.iload_n 2, 1) := by decide +kernel
theorem dX10_swaps_86 : decode cX10_swaps 86 = .ok (.iadd, 1) := by decide +kernel
theorem dX10_swaps_87 : decode cX10_swaps 87 = .ok (.iload_n 3, 1) := by decide +kernel
theorem dX10_swaps_88 : decode cX10_swaps 88 = .ok (.iastore, 1) := by decide +kernel
theorem dX10_swaps_89 : decode cX10_swaps 89 = .ok (.aload_n 0, 1) := by decide +kernel
theorem dX10_swaps_90 : decode cX10_swaps 90 = .ok (.getfield 31, 3) := by decide +kernel
theorem dX10_swaps_93 : decode cX10_swaps 93 = .ok (.bipush 17, 2) := by decide +kernel
theorem dX10_swaps_95 : decode cX10_swaps 95 = .ok (.iload_n 1, 1) := by decide +kernel
theorem dX10_swaps_96 : decode cX10_swaps 96 = .ok (.iadd, 1) := by decide +kernel
theorem dX10_swaps_97 : decode cX10_swaps 97 = .ok (.iaload, 1) := by decide +kernel
theorem dX10_swaps_98 : decode cX10_swaps 98 = .ok (.ireturn, 1) := by decide +kernel
theorem dX10_undo_0 : decode cX10_undo 0 = .ok (.aload_n 0, 1) := by decide +kernel
theorem dX10_undo_1 : decode cX10_undo 1 = .ok (.iconst 0, 1) := by decide +kernel
theorem dX10_undo_2 : decode cX10_undo 2 = .ok (.putfield 62, 3) := by decide +kernel
theorem dX10_undo_5 : decode cX10_undo 5 = .ok (.aload_n 0, 1) := by decide +kernel
theorem dX10_undo_6 : decode cX10_undo 6 = .ok (.getfield 124, 3) := by decide +kernel
theorem dX10_undo_9 : decode cX10_undo 9 = .ok (.ifCond .ne 6, 3) := by decide +kernel
theorem dX10_undo_12 : decode cX10_undo 12 = .ok (.bipush (-2), 2) := by decide +kernel
theorem dX10_undo_14 : decode cX10_undo 14 = .ok (.ireturn, 1) := by decide +kernel
theorem dX10_undo_15 : decode cX10_undo 15 = .ok (.aload_n 0, 1) := by decide +kernel
theorem dX10_undo_16 : decode cX10_undo 16 = .ok (.dup, 1) := by decide +kernel
theorem dX10_undo_17 : decode cX10_undo 17 = .ok (.getfield 124, 3) := by decide +kernel
theorem dX10_undo_20 : decode cX10_undo 20 = .ok (.iconst 1, 1) := by decide +kernel
theorem dX10_undo_21 : decode cX10_undo 21 = .ok (.isub, 1) := by decide +kernel
theorem dX10_undo_22 : decode cX10_undo 22 = .ok (.putfield 124, 3) := by decide +kernel
theorem dX10_undo_25 : decode cX10_undo 25 = .ok (.iconst 0, 1) := by decide +kernel
theorem dX10_undo_26 : decode cX10_undo 26 = .ok (.istore_n 1, 1) := by decide +kernel
theorem dX10_undo_27 : decode cX10_undo 27 = .ok (.iload_n 1, 1) := by decide +kernel
theorem dX10_undo_28 : decode cX10_undo 28 = .ok (.bipush 25, 2) := by decide +kernel
theorem dX10_undo_30 : decode cX10_undo 30 = .ok (.if_icmp .ge 29, 3) := by decide +kernel
theorem dX10_undo_33 : decode cX10_undo 33 = .ok (.aload_n 0, 1) := by decide +kernel
theorem dX10_undo_34 : decode cX10_undo 34 = .ok (.getfield 31, 3) := by decide +kernel
theorem dX10_undo_37 : decode cX10_undo 37 = .ok (.iload_n 1, 1) := by decide +kernel
theorem dX10_undo_38 : decode cX10_undo 38 = .ok (.aload_n 0, 1) := by decide +kernel
theorem dX10_undo_39 : decode cX10_undo 39 = .ok (.getfield 41, 3) := by decide +kernel
theorem dX10_undo_42 : decode cX10_undo 42 = .ok (.bipush 25, 2) := by decide +kernel
theorem dX10_undo_44 : decode cX10_undo 44 = .ok (.aload_n 0, 1) := by decide +kernel
theorem dX10_undo_45 : decode cX10_undo 45 = .ok (.getfield 124, 3) := by decide +kernel
theorem dX10_undo_48 : decode cX10_undo 48 = .ok (.imul, 1) := by decide +kernel
theorem dX10_undo_49 : decode cX10_undo 49 = .ok (.iload_n 1, 1) := by decide +kernel
theorem dX10_undo_50 : decode cX10_undo 50 = .ok (.iadd, 1) := by decide +kernel
theorem dX10_undo_51 : decode cX10_undo 51 = .ok (.iaload, 1) := by decide +kernel
theorem dX10_undo_52 : decode cX10_undo 52 = .ok (.iastore, 1) := by decide +kernel
theorem dX10_undo_53 : decode cX10_undo 53 = .ok (.iinc 1 1, 3) := by decide +kernel
theorem dX10_undo_56 : decode cX10_undo 56 = .ok (.goto (-29), 3) := by decide +kernel
theorem dX10_undo_59 : decode cX10_undo 59 = .ok (.aload_n 0, 1) := by decide +kernel
theorem dX10_undo_60 : decode cX10_undo 60 = .ok (.getfield 124, 3) := by decide +kernel
theorem dX10_undo_63 : decode cX10_undo 63 = .ok (.ireturn, 1) := by decide +kernel
theorem dX10_rings_0 : decode cX10_rings 0 = .ok (.aload_n 0, 1) := by decide +kernel
theorem dX10_rings_1 : decode cX10_rings 1 = .ok (.iconst 0, 1) := by decide +kernel
theorem dX10_rings_2 : decode cX10_rings 2 = .ok (.putfield 62, 3) := by decide +kernel
theorem dX10_rings_5 : decode cX10_rings 5 = .ok (.aload_n 0, 1) := by decide +kernel
theorem dX10_rings_6 : decode cX10_rings 6 = .ok (.invokevirtual 139, 3) := by decide +kernel
theorem dX10_rings_9 : decode cX10_rings 9 = .ok (.iload_n 1, 1) := by decide +kernel
theorem dX10_rings_10 : decode cX10_rings 10 = .ok (.aload_n 0, 1) := by decide +kernel
theorem dX10_rings_11 : decode cX10_rings 11 = .ok (.getfield 31, 3) := by decide +kernel
theorem dX10_rings_14 : decode cX10_rings 14 = .ok (.bipush 15, 2) := by decide +kernel
theorem dX10_rings_16 : decode cX10_rings 16 = .ok (.iaload, 1) := by decide +kernel
theorem dX10_rings_17 : decode cX10_rings 17 = .ok (.sipush 239, 3) := by decide +kernel
theorem dX10_rings_20 : decode cX10_rings 20 = .ok (.invokestatic 66, 3) := by decide +kernel
theorem dX10_rings_23 : decode cX10_rings 23 = .ok (.ifCond .eq 11, 3) := by decide +kernel
theorem dX10_rings_26 : decode cX10_rings 26 = .ok (.aload_n 0, 1) := by decide +kernel
theorem dX10_rings_27 : decode cX10_rings 27 = .ok (.iload_n 1, 1) := by decide +kernel
theorem dX10_rings_28 : decode cX10_rings 28 = .ok (.invokevirtual 145, 3) := by decide +kernel
theorem dX10_rings_31 : decode cX10_rings 31 = .ok (.goto 4, 3) := by decide +kernel
theorem dX10_rings_34 : decode cX10_rings 34 = .ok (.iconst (-1), 1) := by decide +kernel
theorem dX10_rings_35 : decode cX10_rings 35 = .ok (.ireturn, 1) := by decide +kernel
theorem dX10_isSet_0 : decode cX10_isSet 0 = .ok (.iload_n 1, 1) := by decide +kernel
theorem dX10_isSet_1 : decode cX10_isSet 1 = .ok (.iconst 0, 1) := by decide +kernel
theorem dX10_isSet_2 : decode cX10_isSet 2 = .ok (.iconst 1, 1) := by decide +kernel
theorem dX10_isSet_3 : decode cX10_isSet 3 = .ok (.aload_n 0, 1) := by decide +kernel
theorem dX10_isSet_4 : decode cX10_isSet 4 = .ok (.getfield 13, 3) := by decide +kernel
theorem dX10_isSet_7 : decode cX10_isSet 7 = .ok (.iconst 1, 1) := by decide +kernel
theorem dX10_isSet_8 : decode cX10_isSet 8 = .ok (.iaload, 1) := by decide +kernel
theorem dX10_isSet_9 : decode cX10_isSet 9 = .ok (.ishl, 1) := by decide +kernel
theorem dX10_isSet_10 : decode cX10_isSet 10 = .ok (.iconst 1, 1) := by decide +kernel
theorem dX10_isSet_11 : decode cX10_isSet 11 = .ok (.isub, 1) := by decide +kernel
theorem dX10_isSet_12 : decode cX10_isSet 12 = .ok (.invokestatic 66, 3) := by decide +kernel
theorem dX10_isSet_15 : decode cX10_isSet 15 = .ok (.ireturn, 1) := by decide +kernel
theorem dX10_chord_0 : decode cX10_chord 0 = .ok (.aload_n 0, 1) := by decide +kernel
theorem dX10_chord_1 : decode cX10_chord 1 = .ok (.iconst 0, 1) := by decide +kernel
theorem dX10_chord_2 : decode cX10_chord 2 = .ok (.putfield 62, 3) := by decide +kernel
theorem dX10_chord_5 : decode cX10_chord 5 = .ok (.aload_n 0, 1) := by decide +kernel
theorem dX10_chord_6 : decode cX10_chord 6 = .ok (.iload_n 1, 1) := by decide +kernel
theorem dX10_chord_7 : decode cX10_chord 7 = .ok (.invokevirtual 167, 3) := by decide +kernel
theorem dX10_chord_10 : decode cX10_chord 10 = .ok (.ifCond .eq 12, 3) := by decide +kernel
theorem dX10_chord_13 : decode cX10_chord 13 = .ok (.iload_n 2, 1) := by decide +kernel
theorem dX10_chord_14 : decode cX10_chord 14 = .ok (.iconst 0, 1) := by decide +kernel
theorem dX10_chord_15 : decode cX10_chord 15 = .ok (.iconst 1, 1) := by decide +kernel
theorem dX10_chord_16 : decode cX10_chord 16 = .ok (.invokestatic 66, 3) := by decide +kernel
theorem dX10_chord_19 : decode cX10_chord 19 = .ok (.ifCond .ne 5, 3) := by decide +kernel
theorem dX10_chord_22 : decode cX10_chord 22 = .ok (.iconst (-1), 1) := by decide +kernel
theorem dX10_chord_23 : decode cX10_chord 23 = .ok (.ireturn, 1) := by decide +kernel
theorem dX10_chord_24 : decode cX10_chord 24 = .ok (.aload_n 0, 1) := by decide +kernel
theorem dX10_chord_25 : decode cX10_chord 25 = .ok (.invokevirtual 139, 3) := by decide +kernel
theorem dX10_chord_28 : decode cX10_chord 28 = .ok (.iconst 0, 1) := by decide +kernel
theorem dX10_chord_29 : decode cX10_chord 29 = .ok (.istore_n 3, 1) := by decide +kernel
theorem dX10_chord_30 : decode cX10_chord 30 = .ok (.bipush (-9), 2) := by decide +kernel
theorem dX10_chord_32 : decode cX10_chord 32 = .ok (.istore 4, 2) := by decide +kernel
theorem dX10_chord_34 : decode cX10_chord 34 = .ok (.aload_n 0, 1) := by decide +kernel
theorem dX10_chord_35 : decode cX10_chord 35 = .ok (.getfield 31, 3) := by decide +kernel
theorem dX10_chord_38 : decode cX10_chord 38 = .ok (.bipush 15, 2) := by decide +kernel
theorem dX10_chord_40 : decode cX10_chord 40 = .ok (.iaload, 1) := by decide +kernel
theorem dX10_chord_41 : decode cX10_chord 41 = .ok (.istore 5, 2) := by decide +kernel
theorem dX10_chord_43 : decode cX10_chord 43 = .ok (.iload 5, 2) := by decide +kernel
theorem dX10_chord_45 : decode cX10_chord 45 = .ok (.sipush 240, 3) := by decide +kernel
theorem dX10_chord_48 : decode cX10_chord 48 = .ok (.if_icmp .ge 35, 3) := by decide +kernel
theorem dX10_chord_51 : decode cX10_chord 51 = .ok (.aload_n 0, 1) := by decide +kernel
theorem dX10_chord_52 : decode cX10_chord 52 = .ok (.iload 5, 2) := by decide +kernel
theorem dX10_chord_54 : decode cX10_chord 54 = .ok (.invokevirtual 145, 3) := by decide +kernel
theorem dX10_chord_57 : decode cX10_chord 57 = .ok (.iload_n 1, 1) := by decide +kernel
theorem dX10_chord_58 : decode cX10_chord 58 = .ok (.if_icmp .ne 19, 3) := by decide +kernel
theorem dX10_chord_61 : decode cX10_chord 61 = .ok (.iload_n 3, 1) := by decide +kernel
theorem dX10_chord_62 : decode cX10_chord 62 = .ok (.ifCond .ne 8, 3) := by decide +kernel
theorem dX10_chord_65 : decode cX10_chord 65 = .ok (.iload 5, 2) := by decide +kernel
theorem dX10_chord_67 : decode cX10_chord 67 = .ok (.goto 5, 3) := by decide +kernel
theorem dX10_chord_70 : decode cX10_chord 70 = .ok (.iload 4, 2) := by decide +kernel
theorem dX10_chord_72 : decode cX10_chord 72 = .ok (.istore 4, 2) := by decide +kernel
theorem dX10_chord_74 : decode cX10_chord 74 = .ok (.iinc 3 1, 3) := by decide +kernel
theorem dX10_chord_77 : decode cX10_chord 77 = .ok (.iinc 5 1, 3) := by decide +kernel
theorem dX10_chord_80 : decode cX10_chord 80 = .ok (.goto (-37), 3) := by decide +kernel
theorem dX10_chord_83 : decode cX10_chord 83 = .ok (.iload_n 2, 1) := by decide +kernel
theorem dX10_chord_84 : decode cX10_chord 84 = .ok (.ifCond .ne 7, 3) := by decide +kernel
theorem dX10_chord_87 : decode cX10_chord 87 = .ok (.iload_n 3, 1) := by decide +kernel
theorem dX10_chord_88 : decode cX10_chord 88 = .ok (.goto 5, 3) := by decide +kernel
theorem dX10_chord_91 : decode cX10_chord 91 = .ok (.iload 4, 2) := by decide +kernel
theorem dX10_chord_93 : decode cX10_chord 93 = .ok (.ireturn, 1) := by decide +kernel
theorem dX10_isSilent_0 : decode cX10_isSilent 0 = .ok (.aload_n 0, 1) := by decide +kernel
theorem dX10_isSilent_1 : decode cX10_isSilent 1 = .ok (.getfield 31, 3) := by decide +kernel
theorem dX10_isSilent_4 : decode cX10_isSilent 4 = .ok (.bipush 15, 2) := by decide +kernel
theorem dX10_isSilent_6 : decode cX10_isSilent 6 = .ok (.iaload, 1) := by decide +kernel
theorem dX10_isSilent_7 : decode cX10_isSilent 7 = .ok (.istore_n 2, 1) := by decide +kernel
theorem dX10_isSilent_8 : decode cX10_isSilent 8 = .ok (.iload_n 2, 1) := by decide +kernel
theorem dX10_isSilent_9 : decode cX10_isSilent 9 = .ok (.sipush 240, 3) := by decide +kernel
theorem dX10_isSilent_12 : decode cX10_isSilent 12 = .ok (.if_icmp .ge 23, 3) := by decide +kernel
theorem dX10_isSilent_15 : decode cX10_isSilent 15 = .ok (.iload_n 1, 1) := by decide +kernel
theorem dX10_isSilent_16 : decode cX10_isSilent 16 = .ok (.aload_n 0, 1) := by decide +kernel
theorem dX10_isSilent_17 : decode cX10_isSilent 17 = .ok (.iload_n 2, 1) := by decide +kernel
theorem dX10_isSilent_18 : decode cX10_isSilent 18 = .ok (.invokevirtual 145, 3) := by decide +kernel
theorem dX10_isSilent_21 : decode cX10_isSilent 21 = .ok (.iconst (-1), 1) := by decide +kernel
theorem dX10_isSilent_22 : decode cX10_isSilent 22 = .ok (.ixor, 1) := by decide +kernel
theorem dX10_isSilent_23 : decode cX10_isSilent 23 = .ok (.iand, 1) := by decide +kernel
theorem dX10_isSilent_24 : decode cX10_isSilent 24 = .ok (.ifCond .ne 5, 3) := by decide +kernel
theorem dX10_isSilent_27 : decode cX10_isSilent 27 = .ok (.iconst 0, 1) := by decide +kernel
theorem dX10_isSilent_28 : decode cX10_isSilent 28 = .ok (.ireturn, 1) := by decide +kernel
theorem dX10_isSilent_29 : decode cX10_isSilent 29 = .ok (.iinc 2 1, 3) := by decide +kernel
theorem dX10_isSilent_32 : decode cX10_isSilent 32 = .ok (.goto (-24), 3) := by decide +kernel
theorem dX10_isSilent_35 : decode cX10_isSilent 35 = .ok (.iconst 1, 1) := by decide +kernel
theorem dX10_isSilent_36 : decode cX10_isSilent 36 = .ok (.ireturn, 1) := by decide +kernel
theorem dX10_silence_0 : decode cX10_silence 0 = .ok (.aload_n 0, 1) := by decide +kernel
theorem dX10_silence_1 : decode cX10_silence 1 = .ok (.iconst 0, 1) := by decide +kernel
theorem dX10_silence_2 : decode cX10_silence 2 = .ok (.putfield 62, 3) := by decide +kernel
theorem dX10_silence_5 : decode cX10_silence 5 = .ok (.aload_n 0, 1) := by decide +kernel
theorem dX10_silence_6 : decode cX10_silence 6 = .ok (.iload_n 1, 1) := by decide +kernel
theorem dX10_silence_7 : decode cX10_silence 7 = .ok (.invokevirtual 167, 3) := by decide +kernel
theorem dX10_silence_10 : decode cX10_silence 10 = .ok (.ifCond .eq 7, 3) := by decide +kernel
theorem dX10_silence_13 : decode cX10_silence 13 = .ok (.iload_n 1, 1) := by decide +kernel
theorem dX10_silence_14 : decode cX10_silence 14 = .ok (.ifCond .ne 5, 3) := by decide +kernel
theorem dX10_silence_17 : decode cX10_silence 17 = .ok (.iconst (-1), 1) := by decide +kernel
theorem dX10_silence_18 : decode cX10_silence 18 = .ok (.ireturn, 1) := by decide +kernel
theorem dX10_silence_19 : decode cX10_silence 19 = .ok (.bipush (-9), 2) := by decide +kernel
theorem dX10_silence_21 : decode cX10_silence 21 = .ok (.istore_n 2, 1) := by decide +kernel
theorem dX10_silence_22 : decode cX10_silence 22 = .ok (.iconst 0, 1) := by decide +kernel
theorem dX10_silence_23 : decode cX10_silence 23 = .ok (.istore_n 3, 1) := by decide +kernel
theorem dX10_silence_24 : decode cX10_silence 24 = .ok (.iload_n 3, 1) := by decide +kernel
theorem dX10_silence_25 : decode cX10_silence 25 = .ok (.iconst 1, 1) := by decide +kernel
theorem dX10_silence_26 : decode cX10_silence 26 = .ok (.aload_n 0, 1) := by decide +kernel
theorem dX10_silence_27 : decode cX10_silence 27 = .ok (.getfield 13, 3) := by decide +kernel
theorem dX10_silence_30 : decode cX10_silence 30 = .ok (.iconst 2, 1) := by decide +kernel
theorem dX10_silence_31 : decode cX10_silence 31 = .ok (.iaload, 1) := by decide +kernel
theorem dX10_silence_32 : decode cX10_silence 32 = .ok (.ishl, 1) := by decide +kernel
theorem dX10_silence_33 : decode cX10_silence 33 = .ok (.if_icmp .ge 65, 3) := by decide +kernel
theorem dX10_silence_36 : decode cX10_silence 36 = .ok (.iload_n 3, 1) := by decide +kernel
theorem dX10_silence_37 : decode cX10_silence 37 = .ok (.aload_n 0, 1) := by decide +kernel
theorem dX10_silence_38 : decode cX10_silence 38 = .ok (.getfield 31, 3) := by decide +kernel
theorem dX10_silence_41 : decode cX10_silence 41 = .ok (.bipush 16, 2) := by decide +kernel
theorem dX10_silence_43 : decode cX10_silence 43 = .ok (.iaload, 1) := by decide +kernel
theorem dX10_silence_44 : decode cX10_silence 44 = .ok (.iand, 1) := by decide +kernel
theorem dX10_silence_45 : decode cX10_silence 45 = .ok (.ifCond .ne 47, 3) := by decide +kernel
theorem dX10_silence_48 : decode cX10_silence 48 = .ok (.iload_n 2, 1) := by decide +kernel
theorem dX10_silence_49 : decode cX10_silence 49 = .ok (.bipush (-9), 2) := by decide +kernel
theorem dX10_silence_51 : decode cX10_silence 51 = .ok (.if_icmp .eq 14, 3) := by decide +kernel
theorem dX10_silence_54 : decode cX10_silence 54 = .ok (.iload_n 3, 1) := by decide +kernel
theorem dX10_silence_55 : decode cX10_silence 55 = .ok (.invokestatic 164, 3) := by decide +kernel
theorem dX10_silence_58 : decode cX10_silence 58 = .ok (.iload_n 2, 1) := by decide +kernel
theorem dX10_silence_59 : decode cX10_silence 59 = .ok (.invokestatic 164, 3) := by decide +kernel
theorem dX10_silence_62 : decode cX10_silence 62 = .ok (.if_icmp .ge 30, 3) := by decide +kernel
theorem dX10_silence_65 : decode cX10_silence 65 = .ok (.aload_n 0, 1) := by decide +kernel
theorem dX10_silence_66 : decode cX10_silence 66 = .ok (.aload_n 0, 1) := by decide +kernel
theorem dX10_silence_67 : decode cX10_silence 67 = .ok (.getfield 31, 3) := by decide +kernel
theorem dX10_silence_70 : decode cX10_silence 70 = .ok (.bipush 16, 2) := by decide +kernel
theorem dX10_silence_72 : decode cX10_silence 72 = .ok (.iaload, 1) := by decide +kernel
theorem dX10_silence_73 : decode cX10_silence 73 = .ok (.iload_n 3, 1) := by decide +kernel
theorem dX10_silence_74 : decode cX10_silence 74 = .ok (.ior, 1) := by decide +kernel
theorem dX10_silence_75 : decode cX10_silence 75 = .ok (.putfield 127, 3) := by decide +kernel
