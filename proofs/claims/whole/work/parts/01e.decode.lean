theorem dX10_silence_78 : decode cX10_silence 78 = .ok (.aload_n 0, 1) := by decide +kernel
theorem dX10_silence_79 : decode cX10_silence 79 = .ok (.iload_n 1, 1) := by decide +kernel
theorem dX10_silence_80 : decode cX10_silence 80 = .ok (.invokevirtual 170, 3) := by decide +kernel
theorem dX10_silence_83 : decode cX10_silence 83 = .ok (.ifCond .eq 7, 3) := by decide +kernel
theorem dX10_silence_86 : decode cX10_silence 86 = .ok (.iload_n 3, 1) := by decide +kernel
theorem dX10_silence_87 : decode cX10_silence 87 = .ok (.goto 4, 3) := by decide +kernel
theorem dX10_silence_90 : decode cX10_silence 90 = .ok (.iload_n 2, 1) := by decide +kernel
theorem dX10_silence_91 : decode cX10_silence 91 = .ok (.istore_n 2, 1) := by decide +kernel
theorem dX10_silence_92 : decode cX10_silence 92 = .ok (.iinc 3 1, 3) := by decide +kernel
theorem dX10_silence_95 : decode cX10_silence 95 = .ok (.goto (-71), 3) := by decide +kernel
theorem dX10_silence_98 : decode cX10_silence 98 = .ok (.iload_n 2, 1) := by decide +kernel
theorem dX10_silence_99 : decode cX10_silence 99 = .ok (.ireturn, 1) := by decide +kernel
theorem dX10_onWay_0 : decode cX10_onWay 0 = .ok (.iconst 0, 1) := by decide +kernel
theorem dX10_onWay_1 : decode cX10_onWay 1 = .ok (.istore 5, 2) := by decide +kernel
theorem dX10_onWay_3 : decode cX10_onWay 3 = .ok (.iconst 0, 1) := by decide +kernel
theorem dX10_onWay_4 : decode cX10_onWay 4 = .ok (.istore 6, 2) := by decide +kernel
theorem dX10_onWay_6 : decode cX10_onWay 6 = .ok (.iload 6, 2) := by decide +kernel
theorem dX10_onWay_8 : decode cX10_onWay 8 = .ok (.iload_n 3, 1) := by decide +kernel
theorem dX10_onWay_9 : decode cX10_onWay 9 = .ok (.if_icmp .ge 43, 3) := by decide +kernel
theorem dX10_onWay_12 : decode cX10_onWay 12 = .ok (.iload_n 2, 1) := by decide +kernel
theorem dX10_onWay_13 : decode cX10_onWay 13 = .ok (.iload 6, 2) := by decide +kernel
theorem dX10_onWay_15 : decode cX10_onWay 15 = .ok (.iadd, 1) := by decide +kernel
theorem dX10_onWay_16 : decode cX10_onWay 16 = .ok (.sipush 240, 3) := by decide +kernel
theorem dX10_onWay_19 : decode cX10_onWay 19 = .ok (.if_icmp .ge 33, 3) := by decide +kernel
theorem dX10_onWay_22 : decode cX10_onWay 22 = .ok (.iload 5, 2) := by decide +kernel
theorem dX10_onWay_24 : decode cX10_onWay 24 = .ok (.aload_n 0, 1) := by decide +kernel
theorem dX10_onWay_25 : decode cX10_onWay 25 = .ok (.iload_n 1, 1) := by decide +kernel
theorem dX10_onWay_26 : decode cX10_onWay 26 = .ok (.iload_n 2, 1) := by decide +kernel
theorem dX10_onWay_27 : decode cX10_onWay 27 = .ok (.iload 6, 2) := by decide +kernel
theorem dX10_onWay_29 : decode cX10_onWay 29 = .ok (.iadd, 1) := by decide +kernel
theorem dX10_onWay_30 : decode cX10_onWay 30 = .ok (.bipush (-9), 2) := by decide +kernel
theorem dX10_onWay_32 : decode cX10_onWay 32 = .ok (.invokevirtual 133, 3) := by decide +kernel
theorem dX10_onWay_35 : decode cX10_onWay 35 = .ok (.ifCond .eq 7, 3) := by decide +kernel
theorem dX10_onWay_38 : decode cX10_onWay 38 = .ok (.iconst 1, 1) := by decide +kernel
theorem dX10_onWay_39 : decode cX10_onWay 39 = .ok (.goto 4, 3) := by decide +kernel
theorem dX10_onWay_42 : decode cX10_onWay 42 = .ok (.iconst 0, 1) := by decide +kernel
theorem dX10_onWay_43 : decode cX10_onWay 43 = .ok (.iadd, 1) := by decide +kernel
theorem dX10_onWay_44 : decode cX10_onWay 44 = .ok (.istore 5, 2) := by decide +kernel
theorem dX10_onWay_46 : decode cX10_onWay 46 = .ok (.iinc 6 1, 3) := by decide +kernel
theorem dX10_onWay_49 : decode cX10_onWay 49 = .ok (.goto (-43), 3) := by decide +kernel
theorem dX10_onWay_52 : decode cX10_onWay 52 = .ok (.iload_n 2, 1) := by decide +kernel
theorem dX10_onWay_53 : decode cX10_onWay 53 = .ok (.iload_n 3, 1) := by decide +kernel
theorem dX10_onWay_54 : decode cX10_onWay 54 = .ok (.iadd, 1) := by decide +kernel
theorem dX10_onWay_55 : decode cX10_onWay 55 = .ok (.sipush 240, 3) := by decide +kernel
theorem dX10_onWay_58 : decode cX10_onWay 58 = .ok (.if_icmp .lt 8, 3) := by decide +kernel
theorem dX10_onWay_61 : decode cX10_onWay 61 = .ok (.iload 5, 2) := by decide +kernel
theorem dX10_onWay_63 : decode cX10_onWay 63 = .ok (.goto 20, 3) := by decide +kernel
theorem dX10_onWay_66 : decode cX10_onWay 66 = .ok (.iload 5, 2) := by decide +kernel
theorem dX10_onWay_68 : decode cX10_onWay 68 = .ok (.aload_n 0, 1) := by decide +kernel
theorem dX10_onWay_69 : decode cX10_onWay 69 = .ok (.getfield 53, 3) := by decide +kernel
theorem dX10_onWay_72 : decode cX10_onWay 72 = .ok (.bipush 6, 2) := by decide +kernel
theorem dX10_onWay_74 : decode cX10_onWay 74 = .ok (.iload_n 2, 1) := by decide +kernel
theorem dX10_onWay_75 : decode cX10_onWay 75 = .ok (.iload_n 3, 1) := by decide +kernel
theorem dX10_onWay_76 : decode cX10_onWay 76 = .ok (.iadd, 1) := by decide +kernel
theorem dX10_onWay_77 : decode cX10_onWay 77 = .ok (.imul, 1) := by decide +kernel
theorem dX10_onWay_78 : decode cX10_onWay 78 = .ok (.iload 4, 2) := by decide +kernel
theorem dX10_onWay_80 : decode cX10_onWay 80 = .ok (.iadd, 1) := by decide +kernel
theorem dX10_onWay_81 : decode cX10_onWay 81 = .ok (.iaload, 1) := by decide +kernel
theorem dX10_onWay_82 : decode cX10_onWay 82 = .ok (.iadd, 1) := by decide +kernel
theorem dX10_onWay_83 : decode cX10_onWay 83 = .ok (.ireturn, 1) := by decide +kernel
theorem dX10_costBy_0 : decode cX10_costBy 0 = .ok (.iload_n 3, 1) := by decide +kernel
theorem dX10_costBy_1 : decode cX10_costBy 1 = .ok (.iload 4, 2) := by decide +kernel
theorem dX10_costBy_3 : decode cX10_costBy 3 = .ok (.if_icmp .ne 33, 3) := by decide +kernel
theorem dX10_costBy_6 : decode cX10_costBy 6 = .ok (.aload_n 0, 1) := by decide +kernel
theorem dX10_costBy_7 : decode cX10_costBy 7 = .ok (.iload_n 1, 1) := by decide +kernel
theorem dX10_costBy_8 : decode cX10_costBy 8 = .ok (.iload_n 2, 1) := by decide +kernel
theorem dX10_costBy_9 : decode cX10_costBy 9 = .ok (.iload_n 3, 1) := by decide +kernel
theorem dX10_costBy_10 : decode cX10_costBy 10 = .ok (.invokevirtual 133, 3) := by decide +kernel
theorem dX10_costBy_13 : decode cX10_costBy 13 = .ok (.ifCond .eq 7, 3) := by decide +kernel
theorem dX10_costBy_16 : decode cX10_costBy 16 = .ok (.iconst 1, 1) := by decide +kernel
theorem dX10_costBy_17 : decode cX10_costBy 17 = .ok (.goto 4, 3) := by decide +kernel
theorem dX10_costBy_20 : decode cX10_costBy 20 = .ok (.iconst 0, 1) := by decide +kernel
theorem dX10_costBy_21 : decode cX10_costBy 21 = .ok (.aload_n 0, 1) := by decide +kernel
theorem dX10_costBy_22 : decode cX10_costBy 22 = .ok (.getfield 53, 3) := by decide +kernel
theorem dX10_costBy_25 : decode cX10_costBy 25 = .ok (.bipush 6, 2) := by decide +kernel
theorem dX10_costBy_27 : decode cX10_costBy 27 = .ok (.iload_n 2, 1) := by decide +kernel
theorem dX10_costBy_28 : decode cX10_costBy 28 = .ok (.iconst 1, 1) := by decide +kernel
theorem dX10_costBy_29 : decode cX10_costBy 29 = .ok (.iadd, 1) := by decide +kernel
theorem dX10_costBy_30 : decode cX10_costBy 30 = .ok (.imul, 1) := by decide +kernel
theorem dX10_costBy_31 : decode cX10_costBy 31 = .ok (.iload_n 3, 1) := by decide +kernel
theorem dX10_costBy_32 : decode cX10_costBy 32 = .ok (.iadd, 1) := by decide +kernel
theorem dX10_costBy_33 : decode cX10_costBy 33 = .ok (.iaload, 1) := by decide +kernel
theorem dX10_costBy_34 : decode cX10_costBy 34 = .ok (.iadd, 1) := by decide +kernel
theorem dX10_costBy_35 : decode cX10_costBy 35 = .ok (.ireturn, 1) := by decide +kernel
theorem dX10_costBy_36 : decode cX10_costBy 36 = .ok (.aload_n 0, 1) := by decide +kernel
theorem dX10_costBy_37 : decode cX10_costBy 37 = .ok (.iload_n 1, 1) := by decide +kernel
theorem dX10_costBy_38 : decode cX10_costBy 38 = .ok (.iload_n 2, 1) := by decide +kernel
theorem dX10_costBy_39 : decode cX10_costBy 39 = .ok (.aload_n 0, 1) := by decide +kernel
theorem dX10_costBy_40 : decode cX10_costBy 40 = .ok (.iload_n 3, 1) := by decide +kernel
theorem dX10_costBy_41 : decode cX10_costBy 41 = .ok (.iload 4, 2) := by decide +kernel
theorem dX10_costBy_43 : decode cX10_costBy 43 = .ok (.invokevirtual 161, 3) := by decide +kernel
theorem dX10_costBy_46 : decode cX10_costBy 46 = .ok (.iload 4, 2) := by decide +kernel
theorem dX10_costBy_48 : decode cX10_costBy 48 = .ok (.invokevirtual 173, 3) := by decide +kernel
theorem dX10_costBy_51 : decode cX10_costBy 51 = .ok (.ireturn, 1) := by decide +kernel
theorem dX10_measures_0 : decode cX10_measures 0 = .ok (.iconst 0, 1) := by decide +kernel
theorem dX10_measures_1 : decode cX10_measures 1 = .ok (.istore_n 2, 1) := by decide +kernel
theorem dX10_measures_2 : decode cX10_measures 2 = .ok (.iload_n 2, 1) := by decide +kernel
theorem dX10_measures_3 : decode cX10_measures 3 = .ok (.bipush 6, 2) := by decide +kernel
theorem dX10_measures_5 : decode cX10_measures 5 = .ok (.if_icmp .ge 20, 3) := by decide +kernel
theorem dX10_measures_8 : decode cX10_measures 8 = .ok (.aload_n 0, 1) := by decide +kernel
theorem dX10_measures_9 : decode cX10_measures 9 = .ok (.getfield 53, 3) := by decide +kernel
theorem dX10_measures_12 : decode cX10_measures 12 = .ok (.sipush 1440, 3) := by decide +kernel
theorem dX10_measures_15 : decode cX10_measures 15 = .ok (.iload_n 2, 1) := by decide +kernel
theorem dX10_measures_16 : decode cX10_measures 16 = .ok (.iadd, 1) := by decide +kernel
theorem dX10_measures_17 : decode cX10_measures 17 = .ok (.iconst 0, 1) := by decide +kernel
theorem dX10_measures_18 : decode cX10_measures 18 = .ok (.iastore, 1) := by decide +kernel
theorem dX10_measures_19 : decode cX10_measures 19 = .ok (.iinc 2 1, 3) := by decide +kernel
theorem dX10_measures_22 : decode cX10_measures 22 = .ok (.goto (-20), 3) := by decide +kernel
theorem dX10_measures_25 : decode cX10_measures 25 = .ok (.sipush 239, 3) := by decide +kernel
theorem dX10_measures_28 : decode cX10_measures 28 = .ok (.istore_n 2, 1) := by decide +kernel
theorem dX10_measures_29 : decode cX10_measures 29 = .ok (.iload_n 2, 1) := by decide +kernel
theorem dX10_measures_30 : decode cX10_measures 30 = .ok (.aload_n 0, 1) := by decide +kernel
theorem dX10_measures_31 : decode cX10_measures 31 = .ok (.getfield 31, 3) := by decide +kernel
theorem dX10_measures_34 : decode cX10_measures 34 = .ok (.bipush 15, 2) := by decide +kernel
theorem dX10_measures_36 : decode cX10_measures 36 = .ok (.iaload, 1) := by decide +kernel
theorem dX10_measures_37 : decode cX10_measures 37 = .ok (.if_icmp .lt 91, 3) := by decide +kernel
theorem dX10_measures_40 : decode cX10_measures 40 = .ok (.iconst 0, 1) := by decide +kernel
theorem dX10_measures_41 : decode cX10_measures 41 = .ok (.istore_n 3, 1) := by decide +kernel
theorem dX10_measures_42 : decode cX10_measures 42 = .ok (.iload_n 3, 1) := by decide +kernel
theorem dX10_measures_43 : decode cX10_measures 43 = .ok (.aload_n 0, 1) := by decide +kernel
theorem dX10_measures_44 : decode cX10_measures 44 = .ok (.getfield 13, 3) := by decide +kernel
theorem dX10_measures_47 : decode cX10_measures 47 = .ok (.iconst 0, 1) := by decide +kernel
theorem dX10_measures_48 : decode cX10_measures 48 = .ok (.iaload, 1) := by decide +kernel
theorem dX10_measures_49 : decode cX10_measures 49 = .ok (.if_icmp .ge 73, 3) := by decide +kernel
theorem dX10_measures_52 : decode cX10_measures 52 = .ok (.ldc 177, 2) := by decide +kernel
theorem dX10_measures_54 : decode cX10_measures 54 = .ok (.istore 4, 2) := by decide +kernel
theorem dX10_measures_56 : decode cX10_measures 56 = .ok (.iconst 0, 1) := by decide +kernel
theorem dX10_measures_57 : decode cX10_measures 57 = .ok (.istore 5, 2) := by decide +kernel
theorem dX10_measures_59 : decode cX10_measures 59 = .ok (.iload 5, 2) := by decide +kernel
theorem dX10_measures_61 : decode cX10_measures 61 = .ok (.aload_n 0, 1) := by decide +kernel
theorem dX10_measures_62 : decode cX10_measures 62 = .ok (.getfield 13, 3) := by decide +kernel
theorem dX10_measures_65 : decode cX10_measures 65 = .ok (.iconst 0, 1) := by decide +kernel
theorem dX10_measures_66 : decode cX10_measures 66 = .ok (.iaload, 1) := by decide +kernel
theorem dX10_measures_67 : decode cX10_measures 67 = .ok (.if_icmp .ge 36, 3) := by decide +kernel
theorem dX10_measures_70 : decode cX10_measures 70 = .ok (.aload_n 0, 1) := by decide +kernel
theorem dX10_measures_71 : decode cX10_measures 71 = .ok (.iload_n 1, 1) := by decide +kernel
theorem dX10_measures_72 : decode cX10_measures 72 = .ok (.iload_n 2, 1) := by decide +kernel
theorem dX10_measures_73 : decode cX10_measures 73 = .ok (.iload_n 3, 1) := by decide +kernel
theorem dX10_measures_74 : decode cX10_measures 74 = .ok (.iload 5, 2) := by decide +kernel
theorem dX10_measures_76 : decode cX10_measures 76 = .ok (.invokevirtual 178, 3) := by decide +kernel
theorem dX10_measures_79 : decode cX10_measures 79 = .ok (.istore 6, 2) := by decide +kernel
theorem dX10_measures_81 : decode cX10_measures 81 = .ok (.iload 6, 2) := by decide +kernel
theorem dX10_measures_83 : decode cX10_measures 83 = .ok (.iload 4, 2) := by decide +kernel
theorem dX10_measures_85 : decode cX10_measures 85 = .ok (.if_icmp .ge 8, 3) := by decide +kernel
theorem dX10_measures_88 : decode cX10_measures 88 = .ok (.iload 6, 2) := by decide +kernel
theorem dX10_measures_90 : decode cX10_measures 90 = .ok (.goto 5, 3) := by decide +kernel
theorem dX10_measures_93 : decode cX10_measures 93 = .ok (.iload 4, 2) := by decide +kernel
theorem dX10_measures_95 : decode cX10_measures 95 = .ok (.istore 4, 2) := by decide +kernel
theorem dX10_measures_97 : decode cX10_measures 97 = .ok (.iinc 5 1, 3) := by decide +kernel
theorem dX10_measures_100 : decode cX10_measures 100 = .ok (.goto (-41), 3) := by decide +kernel
theorem dX10_measures_103 : decode cX10_measures 103 = .ok (.aload_n 0, 1) := by decide +kernel
theorem dX10_measures_104 : decode cX10_measures 104 = .ok (.getfield 53, 3) := by decide +kernel
theorem dX10_measures_107 : decode cX10_measures 107 = .ok (.bipush 6, 2) := by decide +kernel
theorem dX10_measures_109 : decode cX10_measures 109 = .ok (.iload_n 2, 1) := by decide +kernel
theorem dX10_measures_110 : decode cX10_measures 110 = .ok (.imul, 1) := by decide +kernel
theorem dX10_measures_111 : decode cX10_measures 111 = .ok (.iload_n 3, 1) := by decide +kernel
theorem dX10_measures_112 : decode cX10_measures 112 = .ok (.iadd, 1) := by decide +kernel
theorem dX10_measures_113 : decode cX10_measures 113 = .ok (.iload 4, 2) := by decide +kernel
theorem dX10_measures_115 : decode cX10_measures 115 = .ok (.iastore, 1) := by decide +kernel
theorem dX10_measures_116 : decode cX10_measures 116 = .ok (.iinc 3 1, 3) := by decide +kernel
theorem dX10_measures_119 : decode cX10_measures 119 = .ok (.goto (-77), 3) := by decide +kernel
theorem dX10_measures_122 : decode cX10_measures 122 = .ok (.iinc 2 (-1), 3) := by decide +kernel
theorem dX10_measures_125 : decode cX10_measures 125 = .ok (.goto (-96), 3) := by decide +kernel
theorem dX10_measures_128 : decode cX10_measures 128 = .ok (.return_, 1) := by decide +kernel
theorem dX10_least_0 : decode cX10_least 0 = .ok (.aload_n 0, 1) := by decide +kernel
theorem dX10_least_1 : decode cX10_least 1 = .ok (.iconst 0, 1) := by decide +kernel
theorem dX10_least_2 : decode cX10_least 2 = .ok (.putfield 62, 3) := by decide +kernel
theorem dX10_least_5 : decode cX10_least 5 = .ok (.aload_n 0, 1) := by decide +kernel
theorem dX10_least_6 : decode cX10_least 6 = .ok (.iload_n 1, 1) := by decide +kernel
theorem dX10_least_7 : decode cX10_least 7 = .ok (.invokevirtual 136, 3) := by decide +kernel
theorem dX10_least_10 : decode cX10_least 10 = .ok (.ifCond .eq 12, 3) := by decide +kernel
theorem dX10_least_13 : decode cX10_least 13 = .ok (.iload_n 2, 1) := by decide +kernel
theorem dX10_least_14 : decode cX10_least 14 = .ok (.iconst 0, 1) := by decide +kernel
theorem dX10_least_15 : decode cX10_least 15 = .ok (.iconst 1, 1) := by decide +kernel
theorem dX10_least_16 : decode cX10_least 16 = .ok (.invokestatic 66, 3) := by decide +kernel
theorem dX10_least_19 : decode cX10_least 19 = .ok (.ifCond .ne 5, 3) := by decide +kernel
theorem dX10_least_22 : decode cX10_least 22 = .ok (.iconst (-1), 1) := by decide +kernel
theorem dX10_least_23 : decode cX10_least 23 = .ok (.ireturn, 1) := by decide +kernel
theorem dX10_least_24 : decode cX10_least 24 = .ok (.aload_n 0, 1) := by decide +kernel
theorem dX10_least_25 : decode cX10_least 25 = .ok (.getfield 31, 3) := by decide +kernel
theorem dX10_least_28 : decode cX10_least 28 = .ok (.iconst 0, 1) := by decide +kernel
theorem dX10_least_29 : decode cX10_least 29 = .ok (.iload_n 1, 1) := by decide +kernel
theorem dX10_least_30 : decode cX10_least 30 = .ok (.iadd, 1) := by decide +kernel
theorem dX10_least_31 : decode cX10_least 31 = .ok (.iaload, 1) := by decide +kernel
theorem dX10_least_32 : decode cX10_least 32 = .ok (.istore_n 3, 1) := by decide +kernel
theorem dX10_least_33 : decode cX10_least 33 = .ok (.aload_n 0, 1) := by decide +kernel
theorem dX10_least_34 : decode cX10_least 34 = .ok (.getfield 31, 3) := by decide +kernel
theorem dX10_least_37 : decode cX10_least 37 = .ok (.bipush 15, 2) := by decide +kernel
theorem dX10_least_39 : decode cX10_least 39 = .ok (.iaload, 1) := by decide +kernel
theorem dX10_least_40 : decode cX10_least 40 = .ok (.sipush 240, 3) := by decide +kernel
theorem dX10_least_43 : decode cX10_least 43 = .ok (.if_icmp .ne 13, 3) := by decide +kernel
theorem dX10_least_46 : decode cX10_least 46 = .ok (.iload_n 2, 1) := by decide +kernel
theorem dX10_least_47 : decode cX10_least 47 = .ok (.ifCond .ne 7, 3) := by decide +kernel
theorem dX10_least_50 : decode cX10_least 50 = .ok (.iconst 0, 1) := by decide +kernel
theorem dX10_least_51 : decode cX10_least 51 = .ok (.goto 4, 3) := by decide +kernel
theorem dX10_least_54 : decode cX10_least 54 = .ok (.iload_n 3, 1) := by decide +kernel
theorem dX10_least_55 : decode cX10_least 55 = .ok (.ireturn, 1) := by decide +kernel
theorem dX10_least_56 : decode cX10_least 56 = .ok (.aload_n 0, 1) := by decide +kernel
theorem dX10_least_57 : decode cX10_least 57 = .ok (.invokevirtual 139, 3) := by decide +kernel
theorem dX10_least_60 : decode cX10_least 60 = .ok (.aload_n 0, 1) := by decide +kernel
theorem dX10_least_61 : decode cX10_least 61 = .ok (.iload_n 1, 1) := by decide +kernel
theorem dX10_least_62 : decode cX10_least 62 = .ok (.invokevirtual 181, 3) := by decide +kernel
theorem dX10_least_65 : decode cX10_least 65 = .ok (.aload_n 0, 1) := by decide +kernel
theorem dX10_least_66 : decode cX10_least 66 = .ok (.getfield 31, 3) := by decide +kernel
theorem dX10_least_69 : decode cX10_least 69 = .ok (.iconst 5, 1) := by decide +kernel
theorem dX10_least_70 : decode cX10_least 70 = .ok (.iload_n 1, 1) := by decide +kernel
theorem dX10_least_71 : decode cX10_least 71 = .ok (.iadd, 1) := by decide +kernel
theorem dX10_least_72 : decode cX10_least 72 = .ok (.iaload, 1) := by decide +kernel
theorem dX10_least_73 : decode cX10_least 73 = .ok (.ifCond .le 34, 3) := by decide +kernel
theorem dX10_least_76 : decode cX10_least 76 = .ok (.iload_n 2, 1) := by decide +kernel
theorem dX10_least_77 : decode cX10_least 77 = .ok (.iconst 1, 1) := by decide +kernel
theorem dX10_least_78 : decode cX10_least 78 = .ok (.if_icmp .ne 7, 3) := by decide +kernel
theorem dX10_least_81 : decode cX10_least 81 = .ok (.iload_n 3, 1) := by decide +kernel
theorem dX10_least_82 : decode cX10_least 82 = .ok (.goto 24, 3) := by decide +kernel
theorem dX10_least_85 : decode cX10_least 85 = .ok (.aload_n 0, 1) := by decide +kernel
theorem dX10_least_86 : decode cX10_least 86 = .ok (.iload_n 1, 1) := by decide +kernel
theorem dX10_least_87 : decode cX10_least 87 = .ok (.aload_n 0, 1) := by decide +kernel
theorem dX10_least_88 : decode cX10_least 88 = .ok (.getfield 31, 3) := by decide +kernel
theorem dX10_least_91 : decode cX10_least 91 = .ok (.bipush 15, 2) := by decide +kernel
theorem dX10_least_93 : decode cX10_least 93 = .ok (.iaload, 1) := by decide +kernel
theorem dX10_least_94 : decode cX10_least 94 = .ok (.aload_n 0, 1) := by decide +kernel
theorem dX10_least_95 : decode cX10_least 95 = .ok (.getfield 31, 3) := by decide +kernel
theorem dX10_least_98 : decode cX10_least 98 = .ok (.iconst 5, 1) := by decide +kernel
theorem dX10_least_99 : decode cX10_least 99 = .ok (.iload_n 1, 1) := by decide +kernel
theorem dX10_least_100 : decode cX10_least 100 = .ok (.iadd, 1) := by decide +kernel
theorem dX10_least_101 : decode cX10_least 101 = .ok (.iaload, 1) := by decide +kernel
theorem dX10_least_102 : decode cX10_least 102 = .ok (.iload_n 3, 1) := by decide +kernel
theorem dX10_least_103 : decode cX10_least 103 = .ok (.invokevirtual 173, 3) := by decide +kernel
theorem dX10_least_106 : decode cX10_least 106 = .ok (.ireturn, 1) := by decide +kernel
theorem dX10_least_107 : decode cX10_least 107 = .ok (.iload_n 2, 1) := by decide +kernel
theorem dX10_least_108 : decode cX10_least 108 = .ok (.ifCond .ne 21, 3) := by decide +kernel
theorem dX10_least_111 : decode cX10_least 111 = .ok (.aload_n 0, 1) := by decide +kernel
theorem dX10_least_112 : decode cX10_least 112 = .ok (.getfield 53, 3) := by decide +kernel
theorem dX10_least_115 : decode cX10_least 115 = .ok (.bipush 6, 2) := by decide +kernel
theorem dX10_least_117 : decode cX10_least 117 = .ok (.aload_n 0, 1) := by decide +kernel
theorem dX10_least_118 : decode cX10_least 118 = .ok (.getfield 31, 3) := by decide +kernel
theorem dX10_least_121 : decode cX10_least 121 = .ok (.bipush 15, 2) := by decide +kernel
theorem dX10_least_123 : decode cX10_least 123 = .ok (.iaload, 1) := by decide +kernel
theorem dX10_least_124 : decode cX10_least 124 = .ok (.imul, 1) := by decide +kernel
theorem dX10_least_125 : decode cX10_least 125 = .ok (.iload_n 3, 1) := by decide +kernel
theorem dX10_least_126 : decode cX10_least 126 = .ok (.iadd, 1) := by decide +kernel
theorem dX10_least_127 : decode cX10_least 127 = .ok (.iaload, 1) := by decide +kernel
theorem dX10_least_128 : decode cX10_least 128 = .ok (.ireturn, 1) := by decide +kernel
theorem dX10_least_129 : decode cX10_least 129 = .ok (.iconst 0, 1) := by decide +kernel
theorem dX10_least_130 : decode cX10_least 130 = .ok (.istore 4, 2) := by decide +kernel
theorem dX10_least_132 : decode cX10_least 132 = .ok (.aload_n 0, 1) := by decide +kernel
theorem dX10_least_133 : decode cX10_least 133 = .ok (.iload_n 1, 1) := by decide +kernel
theorem dX10_least_134 : decode cX10_least 134 = .ok (.aload_n 0, 1) := by decide +kernel
theorem dX10_least_135 : decode cX10_least 135 = .ok (.getfield 31, 3) := by decide +kernel
theorem dX10_least_138 : decode cX10_least 138 = .ok (.bipush 15, 2) := by decide +kernel
theorem dX10_least_140 : decode cX10_least 140 = .ok (.iaload, 1) := by decide +kernel
theorem dX10_least_141 : decode cX10_least 141 = .ok (.iload_n 3, 1) := by decide +kernel
theorem dX10_least_142 : decode cX10_least 142 = .ok (.iload 4, 2) := by decide +kernel
theorem dX10_least_144 : decode cX10_least 144 = .ok (.invokevirtual 178, 3) := by decide +kernel
theorem dX10_least_147 : decode cX10_least 147 = .ok (.aload_n 0, 1) := by decide +kernel
theorem dX10_least_148 : decode cX10_least 148 = .ok (.getfield 53, 3) := by decide +kernel
theorem dX10_least_151 : decode cX10_least 151 = .ok (.bipush 6, 2) := by decide +kernel
theorem dX10_least_153 : decode cX10_least 153 = .ok (.aload_n 0, 1) := by decide +kernel
theorem dX10_least_154 : decode cX10_least 154 = .ok (.getfield 31, 3) := by decide +kernel
theorem dX10_least_157 : decode cX10_least 157 = .ok (.bipush 15, 2) := by decide +kernel
theorem dX10_least_159 : decode cX10_least 159 = .ok (.iaload, 1) := by decide +kernel
theorem dX10_least_160 : decode cX10_least 160 = .ok (.imul, 1) := by decide +kernel
theorem dX10_least_161 : decode cX10_least 161 = .ok (.iload_n 3, 1) := by decide +kernel
theorem dX10_least_162 : decode cX10_least 162 = .ok (.iadd, 1) := by decide +kernel
theorem dX10_least_163 : decode cX10_least 163 = .ok (.iaload, 1) := by decide +kernel
theorem dX10_least_164 : decode cX10_least 164 = .ok (.if_icmp .eq 9, 3) := by decide +kernel
theorem dX10_least_167 : decode cX10_least 167 = .ok (.iinc 4 1, 3) := by decide +kernel
theorem dX10_least_170 : decode cX10_least 170 = .ok (.goto (-38), 3) := by decide +kernel
theorem dX10_least_173 : decode cX10_least 173 = .ok (.iload 4, 2) := by decide +kernel
theorem dX10_least_175 : decode cX10_least 175 = .ok (.ireturn, 1) := by decide +kernel
theorem dX10_hears_0 : decode cX10_hears 0 = .ok (.aload_n 0, 1) := by decide +kernel
theorem dX10_hears_1 : decode cX10_hears 1 = .ok (.iconst 0, 1) := by decide +kernel
theorem dX10_hears_2 : decode cX10_hears 2 = .ok (.putfield 62, 3) := by decide +kernel
theorem dX10_hears_5 : decode cX10_hears 5 = .ok (.aload_n 0, 1) := by decide +kernel
theorem dX10_hears_6 : decode cX10_hears 6 = .ok (.iload_n 1, 1) := by decide +kernel
theorem dX10_hears_7 : decode cX10_hears 7 = .ok (.invokevirtual 136, 3) := by decide +kernel
theorem dX10_hears_10 : decode cX10_hears 10 = .ok (.ifCond .eq 23, 3) := by decide +kernel
theorem dX10_hears_13 : decode cX10_hears 13 = .ok (.iload_n 2, 1) := by decide +kernel
theorem dX10_hears_14 : decode cX10_hears 14 = .ok (.iconst 0, 1) := by decide +kernel
theorem dX10_hears_15 : decode cX10_hears 15 = .ok (.sipush 239, 3) := by decide +kernel
theorem dX10_hears_18 : decode cX10_hears 18 = .ok (.invokestatic 66, 3) := by decide +kernel
theorem dX10_hears_21 : decode cX10_hears 21 = .ok (.ifCond .eq 12, 3) := by decide +kernel
theorem dX10_hears_24 : decode cX10_hears 24 = .ok (.iload_n 3, 1) := by decide +kernel
theorem dX10_hears_25 : decode cX10_hears 25 = .ok (.iconst 0, 1) := by decide +kernel
theorem dX10_hears_26 : decode cX10_hears 26 = .ok (.iconst 1, 1) := by decide +kernel
theorem dX10_hears_27 : decode cX10_hears 27 = .ok (.invokestatic 66, 3) := by decide +kernel
theorem dX10_hears_30 : decode cX10_hears 30 = .ok (.ifCond .ne 5, 3) := by decide +kernel
theorem dX10_hears_33 : decode cX10_hears 33 = .ok (.iconst (-1), 1) := by decide +kernel
theorem dX10_hears_34 : decode cX10_hears 34 = .ok (.ireturn, 1) := by decide +kernel
theorem dX10_hears_35 : decode cX10_hears 35 = .ok (.aload_n 0, 1) := by decide +kernel
theorem dX10_hears_36 : decode cX10_hears 36 = .ok (.getfield 121, 3) := by decide +kernel
theorem dX10_hears_39 : decode cX10_hears 39 = .ok (.bipush 6, 2) := by decide +kernel
theorem dX10_hears_41 : decode cX10_hears 41 = .ok (.if_icmp .ne 6, 3) := by decide +kernel
theorem dX10_hears_44 : decode cX10_hears 44 = .ok (.bipush (-3), 2) := by decide +kernel
theorem dX10_hears_46 : decode cX10_hears 46 = .ok (.ireturn, 1) := by decide +kernel
theorem dX10_hears_47 : decode cX10_hears 47 = .ok (.aload_n 0, 1) := by decide +kernel
theorem dX10_hears_48 : decode cX10_hears 48 = .ok (.getfield 44, 3) := by decide +kernel
theorem dX10_hears_51 : decode cX10_hears 51 = .ok (.aload_n 0, 1) := by decide +kernel
theorem dX10_hears_52 : decode cX10_hears 52 = .ok (.getfield 121, 3) := by decide +kernel
theorem dX10_hears_55 : decode cX10_hears 55 = .ok (.iload_n 1, 1) := by decide +kernel
theorem dX10_hears_56 : decode cX10_hears 56 = .ok (.iastore, 1) := by decide +kernel
theorem dX10_hears_57 : decode cX10_hears 57 = .ok (.aload_n 0, 1) := by decide +kernel
theorem dX10_hears_58 : decode cX10_hears 58 = .ok (.getfield 47, 3) := by decide +kernel
theorem dX10_hears_61 : decode cX10_hears 61 = .ok (.aload_n 0, 1) := by decide +kernel
theorem dX10_hears_62 : decode cX10_hears 62 = .ok (.getfield 121, 3) := by decide +kernel
theorem dX10_hears_65 : decode cX10_hears 65 = .ok (.iload_n 2, 1) := by decide +kernel
theorem dX10_hears_66 : decode cX10_hears 66 = .ok (.iastore, 1) := by decide +kernel
theorem dX10_hears_67 : decode cX10_hears 67 = .ok (.aload_n 0, 1) := by decide +kernel
theorem dX10_hears_68 : decode cX10_hears 68 = .ok (.getfield 50, 3) := by decide +kernel
theorem dX10_hears_71 : decode cX10_hears 71 = .ok (.aload_n 0, 1) := by decide +kernel
theorem dX10_hears_72 : decode cX10_hears 72 = .ok (.getfield 121, 3) := by decide +kernel
theorem dX10_hears_75 : decode cX10_hears 75 = .ok (.iload_n 3, 1) := by decide +kernel
theorem dX10_hears_76 : decode cX10_hears 76 = .ok (.iastore, 1) := by decide +kernel
theorem dX10_hears_77 : decode cX10_hears 77 = .ok (.aload_n 0, 1) := by decide +kernel
theorem dX10_hears_78 : decode cX10_hears 78 = .ok (.dup, 1) := by decide +kernel
theorem dX10_hears_79 : decode cX10_hears 79 = .ok (.getfield 121, 3) := by decide +kernel
theorem dX10_hears_82 : decode cX10_hears 82 = .ok (.iconst 1, 1) := by decide +kernel
theorem dX10_hears_83 : decode cX10_hears 83 = .ok (.iadd, 1) := by decide +kernel
theorem dX10_hears_84 : decode cX10_hears 84 = .ok (.putfield 121, 3) := by decide +kernel
theorem dX10_hears_87 : decode cX10_hears 87 = .ok (.aload_n 0, 1) := by decide +kernel
theorem dX10_hears_88 : decode cX10_hears 88 = .ok (.getfield 121, 3) := by decide +kernel
theorem dX10_hears_91 : decode cX10_hears 91 = .ok (.ireturn, 1) := by decide +kernel
theorem dX10_forget_0 : decode cX10_forget 0 = .ok (.aload_n 0, 1) := by decide +kernel
theorem dX10_forget_1 : decode cX10_forget 1 = .ok (.iconst 0, 1) := by decide +kernel
theorem dX10_forget_2 : decode cX10_forget 2 = .ok (.putfield 62, 3) := by decide +kernel
theorem dX10_forget_5 : decode cX10_forget 5 = .ok (.aload_n 0, 1) := by decide +kernel
theorem dX10_forget_6 : decode cX10_forget 6 = .ok (.getfield 121, 3) := by decide +kernel
theorem dX10_forget_9 : decode cX10_forget 9 = .ok (.istore_n 1, 1) := by decide +kernel
theorem dX10_forget_10 : decode cX10_forget 10 = .ok (.aload_n 0, 1) := by decide +kernel
theorem dX10_forget_11 : decode cX10_forget 11 = .ok (.iconst 0, 1) := by decide +kernel
theorem dX10_forget_12 : decode cX10_forget 12 = .ok (.putfield 121, 3) := by decide +kernel
theorem dX10_forget_15 : decode cX10_forget 15 = .ok (.iload_n 1, 1) := by decide +kernel
theorem dX10_forget_16 : decode cX10_forget 16 = .ok (.ireturn, 1) := by decide +kernel
theorem dX10_can_0 : decode cX10_can 0 = .ok (.aload_n 0, 1) := by decide +kernel
theorem dX10_can_1 : decode cX10_can 1 = .ok (.iconst 0, 1) := by decide +kernel
theorem dX10_can_2 : decode cX10_can 2 = .ok (.putfield 62, 3) := by decide +kernel
theorem dX10_can_5 : decode cX10_can 5 = .ok (.aload_n 0, 1) := by decide +kernel
theorem dX10_can_6 : decode cX10_can 6 = .ok (.iload_n 1, 1) := by decide +kernel
theorem dX10_can_7 : decode cX10_can 7 = .ok (.invokevirtual 136, 3) := by decide +kernel
theorem dX10_can_10 : decode cX10_can 10 = .ok (.ifCond .ne 5, 3) := by decide +kernel
theorem dX10_can_13 : decode cX10_can 13 = .ok (.iconst (-1), 1) := by decide +kernel
theorem dX10_can_14 : decode cX10_can 14 = .ok (.ireturn, 1) := by decide +kernel
theorem dX10_can_15 : decode cX10_can 15 = .ok (.aload_n 0, 1) := by decide +kernel
theorem dX10_can_16 : decode cX10_can 16 = .ok (.invokevirtual 139, 3) := by decide +kernel
theorem dX10_can_19 : decode cX10_can 19 = .ok (.iconst 0, 1) := by decide +kernel
theorem dX10_can_20 : decode cX10_can 20 = .ok (.istore_n 2, 1) := by decide +kernel
theorem dX10_can_21 : decode cX10_can 21 = .ok (.iconst 0, 1) := by decide +kernel
theorem dX10_can_22 : decode cX10_can 22 = .ok (.istore_n 3, 1) := by decide +kernel
theorem dX10_can_23 : decode cX10_can 23 = .ok (.iload_n 3, 1) := by decide +kernel
theorem dX10_can_24 : decode cX10_can 24 = .ok (.aload_n 0, 1) := by decide +kernel
theorem dX10_can_25 : decode cX10_can 25 = .ok (.getfield 13, 3) := by decide +kernel
theorem dX10_can_28 : decode cX10_can 28 = .ok (.iconst 0, 1) := by decide +kernel
theorem dX10_can_29 : decode cX10_can 29 = .ok (.iaload, 1) := by decide +kernel
theorem dX10_can_30 : decode cX10_can 30 = .ok (.if_icmp .ge 100, 3) := by decide +kernel
theorem dX10_can_33 : decode cX10_can 33 = .ok (.iconst 1, 1) := by decide +kernel
theorem dX10_can_34 : decode cX10_can 34 = .ok (.istore 4, 2) := by decide +kernel
theorem dX10_can_36 : decode cX10_can 36 = .ok (.iconst 0, 1) := by decide +kernel
theorem dX10_can_37 : decode cX10_can 37 = .ok (.istore 5, 2) := by decide +kernel
theorem dX10_can_39 : decode cX10_can 39 = .ok (.iload 5, 2) := by decide +kernel
theorem dX10_can_41 : decode cX10_can 41 = .ok (.aload_n 0, 1) := by decide +kernel
theorem dX10_can_42 : decode cX10_can 42 = .ok (.getfield 121, 3) := by decide +kernel
theorem dX10_can_45 : decode cX10_can 45 = .ok (.if_icmp .ge 64, 3) := by decide +kernel
theorem dX10_can_48 : decode cX10_can 48 = .ok (.iload 4, 2) := by decide +kernel
theorem dX10_can_50 : decode cX10_can 50 = .ok (.ifCond .eq 50, 3) := by decide +kernel
theorem dX10_can_53 : decode cX10_can 53 = .ok (.aload_n 0, 1) := by decide +kernel
theorem dX10_can_54 : decode cX10_can 54 = .ok (.getfield 44, 3) := by decide +kernel
theorem dX10_can_57 : decode cX10_can 57 = .ok (.iload 5, 2) := by decide +kernel
theorem dX10_can_59 : decode cX10_can 59 = .ok (.iaload, 1) := by decide +kernel
theorem dX10_can_60 : decode cX10_can 60 = .ok (.iload_n 1, 1) := by decide +kernel
theorem dX10_can_61 : decode cX10_can 61 = .ok (.if_icmp .ne 35, 3) := by decide +kernel
theorem dX10_can_64 : decode cX10_can 64 = .ok (.aload_n 0, 1) := by decide +kernel
theorem dX10_can_65 : decode cX10_can 65 = .ok (.iload_n 1, 1) := by decide +kernel
theorem dX10_can_66 : decode cX10_can 66 = .ok (.aload_n 0, 1) := by decide +kernel
theorem dX10_can_67 : decode cX10_can 67 = .ok (.getfield 47, 3) := by decide +kernel
theorem dX10_can_70 : decode cX10_can 70 = .ok (.iload 5, 2) := by decide +kernel
theorem dX10_can_72 : decode cX10_can 72 = .ok (.iaload, 1) := by decide +kernel
theorem dX10_can_73 : decode cX10_can 73 = .ok (.iload_n 3, 1) := by decide +kernel
theorem dX10_can_74 : decode cX10_can 74 = .ok (.invokevirtual 133, 3) := by decide +kernel
theorem dX10_can_77 : decode cX10_can 77 = .ok (.aload_n 0, 1) := by decide +kernel
theorem dX10_can_78 : decode cX10_can 78 = .ok (.getfield 50, 3) := by decide +kernel
theorem dX10_can_81 : decode cX10_can 81 = .ok (.iload 5, 2) := by decide +kernel
theorem dX10_can_83 : decode cX10_can 83 = .ok (.iaload, 1) := by decide +kernel
theorem dX10_can_84 : decode cX10_can 84 = .ok (.iconst 1, 1) := by decide +kernel
theorem dX10_can_85 : decode cX10_can 85 = .ok (.if_icmp .ne 7, 3) := by decide +kernel
theorem dX10_can_88 : decode cX10_can 88 = .ok (.iconst 1, 1) := by decide +kernel
theorem dX10_can_89 : decode cX10_can 89 = .ok (.goto 4, 3) := by decide +kernel
theorem dX10_can_92 : decode cX10_can 92 = .ok (.iconst 0, 1) := by decide +kernel
theorem dX10_can_93 : decode cX10_can 93 = .ok (.if_icmp .ne 7, 3) := by decide +kernel
theorem dX10_can_96 : decode cX10_can 96 = .ok (.iconst 1, 1) := by decide +kernel
theorem dX10_can_97 : decode cX10_can 97 = .ok (.goto 4, 3) := by decide +kernel
theorem dX10_can_100 : decode cX10_can 100 = .ok (.iconst 0, 1) := by decide +kernel
theorem dX10_can_101 : decode cX10_can 101 = .ok (.istore 4, 2) := by decide +kernel
theorem dX10_can_103 : decode cX10_can 103 = .ok (.iinc 5 1, 3) := by decide +kernel
theorem dX10_can_106 : decode cX10_can 106 = .ok (.goto (-67), 3) := by decide +kernel
theorem dX10_can_109 : decode cX10_can 109 = .ok (.iload_n 2, 1) := by decide +kernel
theorem dX10_can_110 : decode cX10_can 110 = .ok (.iload 4, 2) := by decide +kernel
theorem dX10_can_112 : decode cX10_can 112 = .ok (.ifCond .eq 9, 3) := by decide +kernel
theorem dX10_can_115 : decode cX10_can 115 = .ok (.iconst 1, 1) := by decide +kernel
theorem dX10_can_116 : decode cX10_can 116 = .ok (.iload_n 3, 1) := by decide +kernel
theorem dX10_can_117 : decode cX10_can 117 = .ok (.ishl, 1) := by decide +kernel
theorem dX10_can_118 : decode cX10_can 118 = .ok (.goto 4, 3) := by decide +kernel
theorem dX10_can_121 : decode cX10_can 121 = .ok (.iconst 0, 1) := by decide +kernel
theorem dX10_can_122 : decode cX10_can 122 = .ok (.ior, 1) := by decide +kernel
theorem dX10_can_123 : decode cX10_can 123 = .ok (.istore_n 2, 1) := by decide +kernel
theorem dX10_can_124 : decode cX10_can 124 = .ok (.iinc 3 1, 3) := by decide +kernel
theorem dX10_can_127 : decode cX10_can 127 = .ok (.goto (-104), 3) := by decide +kernel
theorem dX10_can_130 : decode cX10_can 130 = .ok (.iload_n 2, 1) := by decide +kernel
theorem dX10_can_131 : decode cX10_can 131 = .ok (.ireturn, 1) := by decide +kernel
theorem dX10_tells_0 : decode cX10_tells 0 = .ok (.aload_n 0, 1) := by decide +kernel
theorem dX10_tells_1 : decode cX10_tells 1 = .ok (.iconst 0, 1) := by decide +kernel
theorem dX10_tells_2 : decode cX10_tells 2 = .ok (.putfield 62, 3) := by decide +kernel
theorem dX10_tells_5 : decode cX10_tells 5 = .ok (.aload_n 0, 1) := by decide +kernel
theorem dX10_tells_6 : decode cX10_tells 6 = .ok (.iload_n 1, 1) := by decide +kernel
theorem dX10_tells_7 : decode cX10_tells 7 = .ok (.invokevirtual 136, 3) := by decide +kernel
theorem dX10_tells_10 : decode cX10_tells 10 = .ok (.ifCond .eq 19, 3) := by decide +kernel
theorem dX10_tells_13 : decode cX10_tells 13 = .ok (.aload_n 0, 1) := by decide +kernel
theorem dX10_tells_14 : decode cX10_tells 14 = .ok (.iload_n 2, 1) := by decide +kernel
theorem dX10_tells_15 : decode cX10_tells 15 = .ok (.invokevirtual 155, 3) := by decide +kernel
theorem dX10_tells_18 : decode cX10_tells 18 = .ok (.ifCond .eq 11, 3) := by decide +kernel
theorem dX10_tells_21 : decode cX10_tells 21 = .ok (.aload_n 0, 1) := by decide +kernel
theorem dX10_tells_22 : decode cX10_tells 22 = .ok (.iload_n 3, 1) := by decide +kernel
theorem dX10_tells_23 : decode cX10_tells 23 = .ok (.invokevirtual 155, 3) := by decide +kernel
theorem dX10_tells_26 : decode cX10_tells 26 = .ok (.ifCond .ne 5, 3) := by decide +kernel
theorem dX10_tells_29 : decode cX10_tells 29 = .ok (.iconst (-1), 1) := by decide +kernel
theorem dX10_tells_30 : decode cX10_tells 30 = .ok (.ireturn, 1) := by decide +kernel
theorem dX10_tells_31 : decode cX10_tells 31 = .ok (.aload_n 0, 1) := by decide +kernel
theorem dX10_tells_32 : decode cX10_tells 32 = .ok (.invokevirtual 139, 3) := by decide +kernel
theorem dX10_tells_35 : decode cX10_tells 35 = .ok (.iconst 0, 1) := by decide +kernel
theorem dX10_tells_36 : decode cX10_tells 36 = .ok (.istore 4, 2) := by decide +kernel
theorem dX10_tells_38 : decode cX10_tells 38 = .ok (.iload 4, 2) := by decide +kernel
theorem dX10_tells_40 : decode cX10_tells 40 = .ok (.sipush 240, 3) := by decide +kernel
theorem dX10_tells_43 : decode cX10_tells 43 = .ok (.if_icmp .ge 31, 3) := by decide +kernel
theorem dX10_tells_46 : decode cX10_tells 46 = .ok (.aload_n 0, 1) := by decide +kernel
theorem dX10_tells_47 : decode cX10_tells 47 = .ok (.iload_n 1, 1) := by decide +kernel
theorem dX10_tells_48 : decode cX10_tells 48 = .ok (.iload 4, 2) := by decide +kernel
theorem dX10_tells_50 : decode cX10_tells 50 = .ok (.iload_n 2, 1) := by decide +kernel
theorem dX10_tells_51 : decode cX10_tells 51 = .ok (.invokevirtual 133, 3) := by decide +kernel
theorem dX10_tells_54 : decode cX10_tells 54 = .ok (.aload_n 0, 1) := by decide +kernel
theorem dX10_tells_55 : decode cX10_tells 55 = .ok (.iload_n 1, 1) := by decide +kernel
theorem dX10_tells_56 : decode cX10_tells 56 = .ok (.iload 4, 2) := by decide +kernel
theorem dX10_tells_58 : decode cX10_tells 58 = .ok (.iload_n 3, 1) := by decide +kernel
theorem dX10_tells_59 : decode cX10_tells 59 = .ok (.invokevirtual 133, 3) := by decide +kernel
theorem dX10_tells_62 : decode cX10_tells 62 = .ok (.if_icmp .eq 6, 3) := by decide +kernel
theorem dX10_tells_65 : decode cX10_tells 65 = .ok (.iload 4, 2) := by decide +kernel
theorem dX10_tells_67 : decode cX10_tells 67 = .ok (.ireturn, 1) := by decide +kernel
theorem dX10_tells_68 : decode cX10_tells 68 = .ok (.iinc 4 1, 3) := by decide +kernel
theorem dX10_tells_71 : decode cX10_tells 71 = .ok (.goto (-33), 3) := by decide +kernel
theorem dX10_tells_74 : decode cX10_tells 74 = .ok (.bipush (-9), 2) := by decide +kernel
theorem dX10_tells_76 : decode cX10_tells 76 = .ok (.ireturn, 1) := by decide +kernel
theorem dX10_gcd_0 : decode cX10_gcd 0 = .ok (.iload_n 0, 1) := by decide +kernel
theorem dX10_gcd_1 : decode cX10_gcd 1 = .ok (.istore_n 2, 1) := by decide +kernel
theorem dX10_gcd_2 : decode cX10_gcd 2 = .ok (.iload_n 1, 1) := by decide +kernel
theorem dX10_gcd_3 : decode cX10_gcd 3 = .ok (.istore_n 3, 1) := by decide +kernel
theorem dX10_gcd_4 : decode cX10_gcd 4 = .ok (.iload_n 3, 1) := by decide +kernel
theorem dX10_gcd_5 : decode cX10_gcd 5 = .ok (.ifCond .eq 16, 3) := by decide +kernel
theorem dX10_gcd_8 : decode cX10_gcd 8 = .ok (.iload_n 2, 1) := by decide +kernel
theorem dX10_gcd_9 : decode cX10_gcd 9 = .ok (.iload_n 3, 1) := by decide +kernel
theorem dX10_gcd_10 : decode cX10_gcd 10 = .ok (.irem, 1) := by decide +kernel
theorem dX10_gcd_11 : decode cX10_gcd 11 = .ok (.istore 4, 2) := by decide +kernel
theorem dX10_gcd_13 : decode cX10_gcd 13 = .ok (.iload_n 3, 1) := by decide +kernel
theorem dX10_gcd_14 : decode cX10_gcd 14 = .ok (.istore_n 2, 1) := by decide +kernel
theorem dX10_gcd_15 : decode cX10_gcd 15 = .ok (.iload 4, 2) := by decide +kernel
theorem dX10_gcd_17 : decode cX10_gcd 17 = .ok (.istore_n 3, 1) := by decide +kernel
theorem dX10_gcd_18 : decode cX10_gcd 18 = .ok (.goto (-14), 3) := by decide +kernel
theorem dX10_gcd_21 : decode cX10_gcd 21 = .ok (.iload_n 2, 1) := by decide +kernel
theorem dX10_gcd_22 : decode cX10_gcd 22 = .ok (.ireturn, 1) := by decide +kernel
theorem dX10_odds_0 : decode cX10_odds 0 = .ok (.aload_n 0, 1) := by decide +kernel
theorem dX10_odds_1 : decode cX10_odds 1 = .ok (.iconst 0, 1) := by decide +kernel
theorem dX10_odds_2 : decode cX10_odds 2 = .ok (.putfield 62, 3) := by decide +kernel
theorem dX10_odds_5 : decode cX10_odds 5 = .ok (.aload_n 0, 1) := by decide +kernel
theorem dX10_odds_6 : decode cX10_odds 6 = .ok (.iload_n 1, 1) := by decide +kernel
theorem dX10_odds_7 : decode cX10_odds 7 = .ok (.invokevirtual 136, 3) := by decide +kernel
theorem dX10_odds_10 : decode cX10_odds 10 = .ok (.ifCond .eq 34, 3) := by decide +kernel
theorem dX10_odds_13 : decode cX10_odds 13 = .ok (.iload_n 2, 1) := by decide +kernel
theorem dX10_odds_14 : decode cX10_odds 14 = .ok (.iconst 0, 1) := by decide +kernel
theorem dX10_odds_15 : decode cX10_odds 15 = .ok (.sipush 239, 3) := by decide +kernel
theorem dX10_odds_18 : decode cX10_odds 18 = .ok (.invokestatic 66, 3) := by decide +kernel
theorem dX10_odds_21 : decode cX10_odds 21 = .ok (.ifCond .eq 23, 3) := by decide +kernel
theorem dX10_odds_24 : decode cX10_odds 24 = .ok (.iload_n 3, 1) := by decide +kernel
theorem dX10_odds_25 : decode cX10_odds 25 = .ok (.iconst 0, 1) := by decide +kernel
theorem dX10_odds_26 : decode cX10_odds 26 = .ok (.bipush 10, 2) := by decide +kernel
theorem dX10_odds_28 : decode cX10_odds 28 = .ok (.invokestatic 66, 3) := by decide +kernel
theorem dX10_odds_31 : decode cX10_odds 31 = .ok (.ifCond .eq 13, 3) := by decide +kernel
theorem dX10_odds_34 : decode cX10_odds 34 = .ok (.iload 4, 2) := by decide +kernel
theorem dX10_odds_36 : decode cX10_odds 36 = .ok (.iconst 0, 1) := by decide +kernel
theorem dX10_odds_37 : decode cX10_odds 37 = .ok (.iconst 1, 1) := by decide +kernel
theorem dX10_odds_38 : decode cX10_odds 38 = .ok (.invokestatic 66, 3) := by decide +kernel
theorem dX10_odds_41 : decode cX10_odds 41 = .ok (.ifCond .ne 5, 3) := by decide +kernel
theorem dX10_odds_44 : decode cX10_odds 44 = .ok (.iconst (-1), 1) := by decide +kernel
theorem dX10_odds_45 : decode cX10_odds 45 = .ok (.ireturn, 1) := by decide +kernel
theorem dX10_odds_46 : decode cX10_odds 46 = .ok (.iconst 1, 1) := by decide +kernel
theorem dX10_odds_47 : decode cX10_odds 47 = .ok (.istore 5, 2) := by decide +kernel
theorem dX10_odds_49 : decode cX10_odds 49 = .ok (.iconst 1, 1) := by decide +kernel
theorem dX10_odds_50 : decode cX10_odds 50 = .ok (.istore 6, 2) := by decide +kernel
theorem dX10_odds_52 : decode cX10_odds 52 = .ok (.iconst 0, 1) := by decide +kernel
theorem dX10_odds_53 : decode cX10_odds 53 = .ok (.istore 7, 2) := by decide +kernel
theorem dX10_odds_55 : decode cX10_odds 55 = .ok (.iload 7, 2) := by decide +kernel
theorem dX10_odds_57 : decode cX10_odds 57 = .ok (.aload_n 0, 1) := by decide +kernel
theorem dX10_odds_58 : decode cX10_odds 58 = .ok (.getfield 13, 3) := by decide +kernel
theorem dX10_odds_61 : decode cX10_odds 61 = .ok (.iconst 2, 1) := by decide +kernel
theorem dX10_odds_62 : decode cX10_odds 62 = .ok (.iaload, 1) := by decide +kernel
theorem dX10_odds_63 : decode cX10_odds 63 = .ok (.if_icmp .ge 59, 3) := by decide +kernel
theorem dX10_odds_66 : decode cX10_odds 66 = .ok (.aload_n 0, 1) := by decide +kernel
theorem dX10_odds_67 : decode cX10_odds 67 = .ok (.sipush 255, 3) := by decide +kernel
theorem dX10_odds_70 : decode cX10_odds 70 = .ok (.iconst 1, 1) := by decide +kernel
theorem dX10_odds_71 : decode cX10_odds 71 = .ok (.iload 7, 2) := by decide +kernel
theorem dX10_odds_73 : decode cX10_odds 73 = .ok (.ishl, 1) := by decide +kernel
theorem dX10_odds_74 : decode cX10_odds 74 = .ok (.iconst (-1), 1) := by decide +kernel
theorem dX10_odds_75 : decode cX10_odds 75 = .ok (.ixor, 1) := by decide +kernel
theorem dX10_odds_76 : decode cX10_odds 76 = .ok (.iand, 1) := by decide +kernel
theorem dX10_odds_77 : decode cX10_odds 77 = .ok (.aload_n 0, 1) := by decide +kernel
theorem dX10_odds_78 : decode cX10_odds 78 = .ok (.getfield 31, 3) := by decide +kernel
theorem dX10_odds_81 : decode cX10_odds 81 = .ok (.bipush 16, 2) := by decide +kernel
theorem dX10_odds_83 : decode cX10_odds 83 = .ok (.iaload, 1) := by decide +kernel
theorem dX10_odds_84 : decode cX10_odds 84 = .ok (.ior, 1) := by decide +kernel
theorem dX10_odds_85 : decode cX10_odds 85 = .ok (.putfield 127, 3) := by decide +kernel
theorem dX10_odds_88 : decode cX10_odds 88 = .ok (.aload_n 0, 1) := by decide +kernel
theorem dX10_odds_89 : decode cX10_odds 89 = .ok (.iload_n 1, 1) := by decide +kernel
theorem dX10_odds_90 : decode cX10_odds 90 = .ok (.iload_n 2, 1) := by decide +kernel
theorem dX10_odds_91 : decode cX10_odds 91 = .ok (.aload_n 0, 1) := by decide +kernel
theorem dX10_odds_92 : decode cX10_odds 92 = .ok (.getfield 16, 3) := by decide +kernel
theorem dX10_odds_95 : decode cX10_odds 95 = .ok (.iload_n 1, 1) := by decide +kernel
theorem dX10_odds_96 : decode cX10_odds 96 = .ok (.iaload, 1) := by decide +kernel
theorem dX10_odds_97 : decode cX10_odds 97 = .ok (.invokevirtual 133, 3) := by decide +kernel
theorem dX10_odds_100 : decode cX10_odds 100 = .ok (.ifCond .eq 16, 3) := by decide +kernel
theorem dX10_odds_103 : decode cX10_odds 103 = .ok (.iload 5, 2) := by decide +kernel
theorem dX10_odds_105 : decode cX10_odds 105 = .ok (.bipush 10, 2) := by decide +kernel
theorem dX10_odds_107 : decode cX10_odds 107 = .ok (.imul, 1) := by decide +kernel
theorem dX10_odds_108 : decode cX10_odds 108 = .ok (.istore 5, 2) := by decide +kernel
theorem dX10_odds_110 : decode cX10_odds 110 = .ok (.iload 6, 2) := by decide +kernel
theorem dX10_odds_112 : decode cX10_odds 112 = .ok (.iload_n 3, 1) := by decide +kernel
theorem dX10_odds_113 : decode cX10_odds 113 = .ok (.imul, 1) := by decide +kernel
theorem dX10_odds_114 : decode cX10_odds 114 = .ok (.istore 6, 2) := by decide +kernel
theorem dX10_odds_116 : decode cX10_odds 116 = .ok (.iinc 7 1, 3) := by decide +kernel
theorem dX10_odds_119 : decode cX10_odds 119 = .ok (.goto (-64), 3) := by decide +kernel
theorem dX10_odds_122 : decode cX10_odds 122 = .ok (.iload 5, 2) := by decide +kernel
theorem dX10_odds_124 : decode cX10_odds 124 = .ok (.iload 6, 2) := by decide +kernel
theorem dX10_odds_126 : decode cX10_odds 126 = .ok (.isub, 1) := by decide +kernel
theorem dX10_odds_127 : decode cX10_odds 127 = .ok (.iload 5, 2) := by decide +kernel
theorem dX10_odds_129 : decode cX10_odds 129 = .ok (.invokestatic 184, 3) := by decide +kernel
theorem dX10_odds_132 : decode cX10_odds 132 = .ok (.istore 7, 2) := by decide +kernel
theorem dX10_odds_134 : decode cX10_odds 134 = .ok (.iload 4, 2) := by decide +kernel
theorem dX10_odds_136 : decode cX10_odds 136 = .ok (.ifCond .ne 14, 3) := by decide +kernel
theorem dX10_odds_139 : decode cX10_odds 139 = .ok (.iload 5, 2) := by decide +kernel
theorem dX10_odds_141 : decode cX10_odds 141 = .ok (.iload 6, 2) := by decide +kernel
theorem dX10_odds_143 : decode cX10_odds 143 = .ok (.isub, 1) := by decide +kernel
theorem dX10_odds_144 : decode cX10_odds 144 = .ok (.iload 7, 2) := by decide +kernel
theorem dX10_odds_146 : decode cX10_odds 146 = .ok (.idiv, 1) := by decide +kernel
theorem dX10_odds_147 : decode cX10_odds 147 = .ok (.goto 8, 3) := by decide +kernel
theorem dX10_odds_150 : decode cX10_odds 150 = .ok (.iload 5, 2) := by decide +kernel
theorem dX10_odds_152 : decode cX10_odds 152 = .ok (.iload 7, 2) := by decide +kernel
theorem dX10_odds_154 : decode cX10_odds 154 = .ok (.idiv, 1) := by decide +kernel
theorem dX10_odds_155 : decode cX10_odds 155 = .ok (.ireturn, 1) := by decide +kernel
theorem dX10_rate_0 : decode cX10_rate 0 = .ok (.aload_n 0, 1) := by decide +kernel
theorem dX10_rate_1 : decode cX10_rate 1 = .ok (.iconst 0, 1) := by decide +kernel
theorem dX10_rate_2 : decode cX10_rate 2 = .ok (.putfield 62, 3) := by decide +kernel
theorem dX10_rate_5 : decode cX10_rate 5 = .ok (.iload_n 1, 1) := by decide +kernel
theorem dX10_rate_6 : decode cX10_rate 6 = .ok (.iconst 0, 1) := by decide +kernel
theorem dX10_rate_7 : decode cX10_rate 7 = .ok (.iconst 5, 1) := by decide +kernel
theorem dX10_rate_8 : decode cX10_rate 8 = .ok (.invokestatic 66, 3) := by decide +kernel
theorem dX10_rate_11 : decode cX10_rate 11 = .ok (.ifCond .eq 11, 3) := by decide +kernel
theorem dX10_rate_14 : decode cX10_rate 14 = .ok (.aload_n 0, 1) := by decide +kernel
theorem dX10_rate_15 : decode cX10_rate 15 = .ok (.iload_n 2, 1) := by decide +kernel
theorem dX10_rate_16 : decode cX10_rate 16 = .ok (.invokevirtual 142, 3) := by decide +kernel
theorem dX10_rate_19 : decode cX10_rate 19 = .ok (.ifCond .ne 6, 3) := by decide +kernel
theorem dX10_rate_22 : decode cX10_rate 22 = .ok (.ldc 187, 2) := by decide +kernel
theorem dX10_rate_24 : decode cX10_rate 24 = .ok (.ireturn, 1) := by decide +kernel
theorem dX10_rate_25 : decode cX10_rate 25 = .ok (.aload_n 0, 1) := by decide +kernel
theorem dX10_rate_26 : decode cX10_rate 26 = .ok (.getfield 28, 3) := by decide +kernel
theorem dX10_rate_29 : decode cX10_rate 29 = .ok (.iload_n 2, 1) := by decide +kernel
theorem dX10_rate_30 : decode cX10_rate 30 = .ok (.iaload, 1) := by decide +kernel
theorem dX10_rate_31 : decode cX10_rate 31 = .ok (.istore_n 3, 1) := by decide +kernel
theorem dX10_rate_32 : decode cX10_rate 32 = .ok (.iload_n 3, 1) := by decide +kernel
theorem dX10_rate_33 : decode cX10_rate 33 = .ok (.aload_n 0, 1) := by decide +kernel
theorem dX10_rate_34 : decode cX10_rate 34 = .ok (.getfield 22, 3) := by decide +kernel
theorem dX10_rate_37 : decode cX10_rate 37 = .ok (.iload_n 2, 1) := by decide +kernel
theorem dX10_rate_38 : decode cX10_rate 38 = .ok (.iaload, 1) := by decide +kernel
theorem dX10_rate_39 : decode cX10_rate 39 = .ok (.iadd, 1) := by decide +kernel
theorem dX10_rate_40 : decode cX10_rate 40 = .ok (.istore 4, 2) := by decide +kernel
theorem dX10_rate_42 : decode cX10_rate 42 = .ok (.iload_n 3, 1) := by decide +kernel
theorem dX10_rate_43 : decode cX10_rate 43 = .ok (.aload_n 0, 1) := by decide +kernel
theorem dX10_rate_44 : decode cX10_rate 44 = .ok (.getfield 31, 3) := by decide +kernel
theorem dX10_rate_47 : decode cX10_rate 47 = .ok (.bipush 16, 2) := by decide +kernel
theorem dX10_rate_49 : decode cX10_rate 49 = .ok (.iaload, 1) := by decide +kernel
theorem dX10_rate_50 : decode cX10_rate 50 = .ok (.iload_n 2, 1) := by decide +kernel
theorem dX10_rate_51 : decode cX10_rate 51 = .ok (.ishr, 1) := by decide +kernel
theorem dX10_rate_52 : decode cX10_rate 52 = .ok (.iconst 1, 1) := by decide +kernel
theorem dX10_rate_53 : decode cX10_rate 53 = .ok (.iand, 1) := by decide +kernel
theorem dX10_rate_54 : decode cX10_rate 54 = .ok (.iconst 1, 1) := by decide +kernel
theorem dX10_rate_55 : decode cX10_rate 55 = .ok (.if_icmp .ne 8, 3) := by decide +kernel
theorem dX10_rate_58 : decode cX10_rate 58 = .ok (.bipush 7, 2) := by decide +kernel
theorem dX10_rate_60 : decode cX10_rate 60 = .ok (.goto 4, 3) := by decide +kernel
theorem dX10_rate_63 : decode cX10_rate 63 = .ok (.iconst 0, 1) := by decide +kernel
theorem dX10_rate_64 : decode cX10_rate 64 = .ok (.isub, 1) := by decide +kernel
theorem dX10_rate_65 : decode cX10_rate 65 = .ok (.istore 5, 2) := by decide +kernel
theorem dX10_rate_67 : decode cX10_rate 67 = .ok (.aload_n 0, 1) := by decide +kernel
theorem dX10_rate_68 : decode cX10_rate 68 = .ok (.dup, 1) := by decide +kernel
theorem dX10_rate_69 : decode cX10_rate 69 = .ok (.getfield 188, 3) := by decide +kernel
theorem dX10_rate_72 : decode cX10_rate 72 = .ok (.iload_n 1, 1) := by decide +kernel
theorem dX10_rate_73 : decode cX10_rate 73 = .ok (.ifCond .ne 7, 3) := by decide +kernel
theorem dX10_rate_76 : decode cX10_rate 76 = .ok (.lconst 1, 1) := by decide +kernel
theorem dX10_rate_77 : decode cX10_rate 77 = .ok (.goto 50, 3) := by decide +kernel
theorem dX10_rate_80 : decode cX10_rate 80 = .ok (.iload_n 1, 1) := by decide +kernel
theorem dX10_rate_81 : decode cX10_rate 81 = .ok (.iconst 1, 1) := by decide +kernel
theorem dX10_rate_82 : decode cX10_rate 82 = .ok (.if_icmp .ne 9, 3) := by decide +kernel
theorem dX10_rate_85 : decode cX10_rate 85 = .ok (.ldc2_w 192, 3) := by decide +kernel
theorem dX10_rate_88 : decode cX10_rate 88 = .ok (.goto 39, 3) := by decide +kernel
theorem dX10_rate_91 : decode cX10_rate 91 = .ok (.iload_n 1, 1) := by decide +kernel
theorem dX10_rate_92 : decode cX10_rate 92 = .ok (.iconst 2, 1) := by decide +kernel
theorem dX10_rate_93 : decode cX10_rate 93 = .ok (.if_icmp .ne 9, 3) := by decide +kernel
theorem dX10_rate_96 : decode cX10_rate 96 = .ok (.ldc2_w 194, 3) := by decide +kernel
theorem dX10_rate_99 : decode cX10_rate 99 = .ok (.goto 28, 3) := by decide +kernel
theorem dX10_rate_102 : decode cX10_rate 102 = .ok (.iload_n 1, 1) := by decide +kernel
theorem dX10_rate_103 : decode cX10_rate 103 = .ok (.iconst 3, 1) := by decide +kernel
theorem dX10_rate_104 : decode cX10_rate 104 = .ok (.if_icmp .ne 9, 3) := by decide +kernel
theorem dX10_rate_107 : decode cX10_rate 107 = .ok (.ldc2_w 196, 3) := by decide +kernel
theorem dX10_rate_110 : decode cX10_rate 110 = .ok (.goto 17, 3) := by decide +kernel
theorem dX10_rate_113 : decode cX10_rate 113 = .ok (.iload_n 1, 1) := by decide +kernel
theorem dX10_rate_114 : decode cX10_rate 114 = .ok (.iconst 4, 1) := by decide +kernel
theorem dX10_rate_115 : decode cX10_rate 115 = .ok (.if_icmp .ne 9, 3) := by decide +kernel
theorem dX10_rate_118 : decode cX10_rate 118 = .ok (.ldc2_w 198, 3) := by decide +kernel
theorem dX10_rate_121 : decode cX10_rate 121 = .ok (.goto 6, 3) := by decide +kernel
theorem dX10_rate_124 : decode cX10_rate 124 = .ok (.ldc2_w 200, 3) := by decide +kernel
theorem dX10_rate_127 : decode cX10_rate 127 = .ok (.ladd, 1) := by decide +kernel
theorem dX10_rate_128 : decode cX10_rate 128 = .ok (.putfield 188, 3) := by decide +kernel
theorem dX10_rate_131 : decode cX10_rate 131 = .ok (.iload_n 1, 1) := by decide +kernel
theorem dX10_rate_132 : decode cX10_rate 132 = .ok (.ifCond .ne 7, 3) := by decide +kernel
theorem dX10_rate_135 : decode cX10_rate 135 = .ok (.iload_n 3, 1) := by decide +kernel
theorem dX10_rate_136 : decode cX10_rate 136 = .ok (.goto 66, 3) := by decide +kernel
theorem dX10_rate_139 : decode cX10_rate 139 = .ok (.iload_n 1, 1) := by decide +kernel
theorem dX10_rate_140 : decode cX10_rate 140 = .ok (.iconst 1, 1) := by decide +kernel
theorem dX10_rate_141 : decode cX10_rate 141 = .ok (.if_icmp .ne 8, 3) := by decide +kernel
theorem dX10_rate_144 : decode cX10_rate 144 = .ok (.iload 4, 2) := by decide +kernel
theorem dX10_rate_146 : decode cX10_rate 146 = .ok (.goto 56, 3) := by decide +kernel
theorem dX10_rate_149 : decode cX10_rate 149 = .ok (.iload_n 1, 1) := by decide +kernel
theorem dX10_rate_150 : decode cX10_rate 150 = .ok (.iconst 2, 1) := by decide +kernel
theorem dX10_rate_151 : decode cX10_rate 151 = .ok (.if_icmp .ne 8, 3) := by decide +kernel
theorem dX10_rate_154 : decode cX10_rate 154 = .ok (.iload 5, 2) := by decide +kernel
theorem dX10_rate_156 : decode cX10_rate 156 = .ok (.goto 46, 3) := by decide +kernel
theorem dX10_rate_159 : decode cX10_rate 159 = .ok (.iload_n 1, 1) := by decide +kernel
theorem dX10_rate_160 : decode cX10_rate 160 = .ok (.iconst 3, 1) := by decide +kernel
theorem dX10_rate_161 : decode cX10_rate 161 = .ok (.if_icmp .ne 10, 3) := by decide +kernel
theorem dX10_rate_164 : decode cX10_rate 164 = .ok (.iconst 2, 1) := by decide +kernel
theorem dX10_rate_165 : decode cX10_rate 165 = .ok (.iload 4, 2) := by decide +kernel
theorem dX10_rate_167 : decode cX10_rate 167 = .ok (.imul, 1) := by decide +kernel
theorem dX10_rate_168 : decode cX10_rate 168 = .ok (.goto 34, 3) := by decide +kernel
theorem dX10_rate_171 : decode cX10_rate 171 = .ok (.iload_n 1, 1) := by decide +kernel
theorem dX10_rate_172 : decode cX10_rate 172 = .ok (.iconst 4, 1) := by decide +kernel
theorem dX10_rate_173 : decode cX10_rate 173 = .ok (.if_icmp .ne 10, 3) := by decide +kernel
theorem dX10_rate_176 : decode cX10_rate 176 = .ok (.iload 5, 2) := by decide +kernel
theorem dX10_rate_178 : decode cX10_rate 178 = .ok (.iload_n 2, 1) := by decide +kernel
theorem dX10_rate_179 : decode cX10_rate 179 = .ok (.iadd, 1) := by decide +kernel
theorem dX10_rate_180 : decode cX10_rate 180 = .ok (.goto 22, 3) := by decide +kernel
theorem dX10_rate_183 : decode cX10_rate 183 = .ok (.iload_n 3, 1) := by decide +kernel
theorem dX10_rate_184 : decode cX10_rate 184 = .ok (.aload_n 0, 1) := by decide +kernel
theorem dX10_rate_185 : decode cX10_rate 185 = .ok (.getfield 31, 3) := by decide +kernel
theorem dX10_rate_188 : decode cX10_rate 188 = .ok (.bipush 10, 2) := by decide +kernel
theorem dX10_rate_190 : decode cX10_rate 190 = .ok (.aload_n 0, 1) := by decide +kernel
theorem dX10_rate_191 : decode cX10_rate 191 = .ok (.getfield 31, 3) := by decide +kernel
theorem dX10_rate_194 : decode cX10_rate 194 = .ok (.bipush 17, 2) := by decide +kernel
theorem dX10_rate_196 : decode cX10_rate 196 = .ok (.iload_n 2, 1) := by decide +kernel
theorem dX10_rate_197 : decode cX10_rate 197 = .ok (.iadd, 1) := by decide +kernel
theorem dX10_rate_198 : decode cX10_rate 198 = .ok (.iaload, 1) := by decide +kernel
theorem dX10_rate_199 : decode cX10_rate 199 = .ok (.iadd, 1) := by decide +kernel
theorem dX10_rate_200 : decode cX10_rate 200 = .ok (.iaload, 1) := by decide +kernel
theorem dX10_rate_201 : decode cX10_rate 201 = .ok (.iadd, 1) := by decide +kernel
theorem dX10_rate_202 : decode cX10_rate 202 = .ok (.ireturn, 1) := by decide +kernel
theorem dX10_keep_0 : decode cX10_keep 0 = .ok (.aload_n 0, 1) := by decide +kernel
theorem dX10_keep_1 : decode cX10_keep 1 = .ok (.iconst 0, 1) := by decide +kernel
theorem dX10_keep_2 : decode cX10_keep 2 = .ok (.putfield 62, 3) := by decide +kernel
theorem dX10_keep_5 : decode cX10_keep 5 = .ok (.iload_n 1, 1) := by decide +kernel
theorem dX10_keep_6 : decode cX10_keep 6 = .ok (.iconst 0, 1) := by decide +kernel
theorem dX10_keep_7 : decode cX10_keep 7 = .ok (.iconst 1, 1) := by decide +kernel
theorem dX10_keep_8 : decode cX10_keep 8 = .ok (.invokestatic 66, 3) := by decide +kernel
theorem dX10_keep_11 : decode cX10_keep 11 = .ok (.ifCond .ne 5, 3) := by decide +kernel
theorem dX10_keep_14 : decode cX10_keep 14 = .ok (.iconst (-1), 1) := by decide +kernel
theorem dX10_keep_15 : decode cX10_keep 15 = .ok (.ireturn, 1) := by decide +kernel
theorem dX10_keep_16 : decode cX10_keep 16 = .ok (.iconst 0, 1) := by decide +kernel
theorem dX10_keep_17 : decode cX10_keep 17 = .ok (.istore_n 2, 1) := by decide +kernel
theorem dX10_keep_18 : decode cX10_keep 18 = .ok (.iload_n 2, 1) := by decide +kernel
theorem dX10_keep_19 : decode cX10_keep 19 = .ok (.bipush 25, 2) := by decide +kernel
theorem dX10_keep_21 : decode cX10_keep 21 = .ok (.if_icmp .ge 26, 3) := by decide +kernel
theorem dX10_keep_24 : decode cX10_keep 24 = .ok (.aload_n 0, 1) := by decide +kernel
theorem dX10_keep_25 : decode cX10_keep 25 = .ok (.getfield 34, 3) := by decide +kernel
theorem dX10_keep_28 : decode cX10_keep 28 = .ok (.bipush 25, 2) := by decide +kernel
theorem dX10_keep_30 : decode cX10_keep 30 = .ok (.iload_n 1, 1) := by decide +kernel
theorem dX10_keep_31 : decode cX10_keep 31 = .ok (.imul, 1) := by decide +kernel
theorem dX10_keep_32 : decode cX10_keep 32 = .ok (.iload_n 2, 1) := by decide +kernel
theorem dX10_keep_33 : decode cX10_keep 33 = .ok (.iadd, 1) := by decide +kernel
theorem dX10_keep_34 : decode cX10_keep 34 = .ok (.aload_n 0, 1) := by decide +kernel
theorem dX10_keep_35 : decode cX10_keep 35 = .ok (.getfield 31, 3) := by decide +kernel
theorem dX10_keep_38 : decode cX10_keep 38 = .ok (.iload_n 2, 1) := by decide +kernel
theorem dX10_keep_39 : decode cX10_keep 39 = .ok (.iaload, 1) := by decide +kernel
theorem dX10_keep_40 : decode cX10_keep 40 = .ok (.iastore, 1) := by decide +kernel
theorem dX10_keep_41 : decode cX10_keep 41 = .ok (.iinc 2 1, 3) := by decide +kernel
theorem dX10_keep_44 : decode cX10_keep 44 = .ok (.goto (-26), 3) := by decide +kernel
theorem dX10_keep_47 : decode cX10_keep 47 = .ok (.aload_n 0, 1) := by decide +kernel
theorem dX10_keep_48 : decode cX10_keep 48 = .ok (.getfield 37, 3) := by decide +kernel
theorem dX10_keep_51 : decode cX10_keep 51 = .ok (.iload_n 1, 1) := by decide +kernel
theorem dX10_keep_52 : decode cX10_keep 52 = .ok (.iconst 1, 1) := by decide +kernel
theorem dX10_keep_53 : decode cX10_keep 53 = .ok (.bastore, 1) := by decide +kernel
theorem dX10_keep_54 : decode cX10_keep 54 = .ok (.aload_n 0, 1) := by decide +kernel
theorem dX10_keep_55 : decode cX10_keep 55 = .ok (.getfield 31, 3) := by decide +kernel
theorem dX10_keep_58 : decode cX10_keep 58 = .ok (.bipush 15, 2) := by decide +kernel
theorem dX10_keep_60 : decode cX10_keep 60 = .ok (.iaload, 1) := by decide +kernel
theorem dX10_keep_61 : decode cX10_keep 61 = .ok (.ireturn, 1) := by decide +kernel
theorem dX10_back_0 : decode cX10_back 0 = .ok (.aload_n 0, 1) := by decide +kernel
theorem dX10_back_1 : decode cX10_back 1 = .ok (.iconst 0, 1) := by decide +kernel
theorem dX10_back_2 : decode cX10_back 2 = .ok (.putfield 62, 3) := by decide +kernel
theorem dX10_back_5 : decode cX10_back 5 = .ok (.iload_n 1, 1) := by decide +kernel
theorem dX10_back_6 : decode cX10_back 6 = .ok (.iconst 0, 1) := by decide +kernel
theorem dX10_back_7 : decode cX10_back 7 = .ok (.iconst 1, 1) := by decide +kernel
theorem dX10_back_8 : decode cX10_back 8 = .ok (.invokestatic 66, 3) := by decide +kernel
theorem dX10_back_11 : decode cX10_back 11 = .ok (.ifCond .ne 5, 3) := by decide +kernel
theorem dX10_back_14 : decode cX10_back 14 = .ok (.iconst (-1), 1) := by decide +kernel
theorem dX10_back_15 : decode cX10_back 15 = .ok (.ireturn, 1) := by decide +kernel
theorem dX10_back_16 : decode cX10_back 16 = .ok (.aload_n 0, 1) := by decide +kernel
theorem dX10_back_17 : decode cX10_back 17 = .ok (.getfield 37, 3) := by decide +kernel
theorem dX10_back_20 : decode cX10_back 20 = .ok (.iload_n 1, 1) := by decide +kernel
theorem dX10_back_21 : decode cX10_back 21 = .ok (.baload, 1) := by decide +kernel
theorem dX10_back_22 : decode cX10_back 22 = .ok (.ifCond .ne 6, 3) := by decide +kernel
theorem dX10_back_25 : decode cX10_back 25 = .ok (.bipush (-2), 2) := by decide +kernel
theorem dX10_back_27 : decode cX10_back 27 = .ok (.ireturn, 1) := by decide +kernel
theorem dX10_back_28 : decode cX10_back 28 = .ok (.iconst 0, 1) := by decide +kernel
theorem dX10_back_29 : decode cX10_back 29 = .ok (.istore_n 2, 1) := by decide +kernel
theorem dX10_back_30 : decode cX10_back 30 = .ok (.iload_n 2, 1) := by decide +kernel
theorem dX10_back_31 : decode cX10_back 31 = .ok (.bipush 25, 2) := by decide +kernel
theorem dX10_back_33 : decode cX10_back 33 = .ok (.if_icmp .ge 26, 3) := by decide +kernel
theorem dX10_back_36 : decode cX10_back 36 = .ok (.aload_n 0, 1) := by decide +kernel
theorem dX10_back_37 : decode cX10_back 37 = .ok (.getfield 31, 3) := by decide +kernel
theorem dX10_back_40 : decode cX10_back 40 = .ok (.iload_n 2, 1) := by decide +kernel
theorem dX10_back_41 : decode cX10_back 41 = .ok (.aload_n 0, 1) := by decide +kernel
theorem dX10_back_42 : decode cX10_back 42 = .ok (.getfield 34, 3) := by decide +kernel
theorem dX10_back_45 : decode cX10_back 45 = .ok (.bipush 25, 2) := by decide +kernel
theorem dX10_back_47 : decode cX10_back 47 = .ok (.iload_n 1, 1) := by decide +kernel
theorem dX10_back_48 : decode cX10_back 48 = .ok (.imul, 1) := by decide +kernel
theorem dX10_back_49 : decode cX10_back 49 = .ok (.iload_n 2, 1) := by decide +kernel
theorem dX10_back_50 : decode cX10_back 50 = .ok (.iadd, 1) := by decide +kernel
theorem dX10_back_51 : decode cX10_back 51 = .ok (.iaload, 1) := by decide +kernel
theorem dX10_back_52 : decode cX10_back 52 = .ok (.iastore, 1) := by decide +kernel
theorem dX10_back_53 : decode cX10_back 53 = .ok (.iinc 2 1, 3) := by decide +kernel
theorem dX10_back_56 : decode cX10_back 56 = .ok (.goto (-26), 3) := by decide +kernel
theorem dX10_back_59 : decode cX10_back 59 = .ok (.aload_n 0, 1) := by decide +kernel
theorem dX10_back_60 : decode cX10_back 60 = .ok (.iconst 0, 1) := by decide +kernel
theorem dX10_back_61 : decode cX10_back 61 = .ok (.putfield 124, 3) := by decide +kernel
theorem dX10_back_64 : decode cX10_back 64 = .ok (.aload_n 0, 1) := by decide +kernel
theorem dX10_back_65 : decode cX10_back 65 = .ok (.getfield 31, 3) := by decide +kernel
theorem dX10_back_68 : decode cX10_back 68 = .ok (.bipush 15, 2) := by decide +kernel
theorem dX10_back_70 : decode cX10_back 70 = .ok (.iaload, 1) := by decide +kernel
theorem dX10_back_71 : decode cX10_back 71 = .ok (.ireturn, 1) := by decide +kernel
theorem dX10_count_0 : decode cX10_count 0 = .ok (.aload_n 0, 1) := by decide +kernel
theorem dX10_count_1 : decode cX10_count 1 = .ok (.iconst 0, 1) := by decide +kernel
theorem dX10_count_2 : decode cX10_count 2 = .ok (.putfield 62, 3) := by decide +kernel
theorem dX10_count_5 : decode cX10_count 5 = .ok (.iload_n 1, 1) := by decide +kernel
theorem dX10_count_6 : decode cX10_count 6 = .ok (.iconst 0, 1) := by decide +kernel
theorem dX10_count_7 : decode cX10_count 7 = .ok (.iconst 4, 1) := by decide +kernel
theorem dX10_count_8 : decode cX10_count 8 = .ok (.invokestatic 66, 3) := by decide +kernel
theorem dX10_count_11 : decode cX10_count 11 = .ok (.ifCond .eq 12, 3) := by decide +kernel
theorem dX10_count_14 : decode cX10_count 14 = .ok (.aload_n 0, 1) := by decide +kernel
theorem dX10_count_15 : decode cX10_count 15 = .ok (.getfield 13, 3) := by decide +kernel
theorem dX10_count_18 : decode cX10_count 18 = .ok (.iload_n 1, 1) := by decide +kernel
theorem dX10_count_19 : decode cX10_count 19 = .ok (.iaload, 1) := by decide +kernel
theorem dX10_count_20 : decode cX10_count 20 = .ok (.goto 29, 3) := by decide +kernel
theorem dX10_count_23 : decode cX10_count 23 = .ok (.iload_n 1, 1) := by decide +kernel
theorem dX10_count_24 : decode cX10_count 24 = .ok (.iconst 5, 1) := by decide +kernel
theorem dX10_count_25 : decode cX10_count 25 = .ok (.if_icmp .ne 10, 3) := by decide +kernel
theorem dX10_count_28 : decode cX10_count 28 = .ok (.aload_n 0, 1) := by decide +kernel
theorem dX10_count_29 : decode cX10_count 29 = .ok (.getfield 121, 3) := by decide +kernel
theorem dX10_count_32 : decode cX10_count 32 = .ok (.goto 17, 3) := by decide +kernel
theorem dX10_count_35 : decode cX10_count 35 = .ok (.iload_n 1, 1) := by decide +kernel
theorem dX10_count_36 : decode cX10_count 36 = .ok (.bipush 6, 2) := by decide +kernel
theorem dX10_count_38 : decode cX10_count 38 = .ok (.if_icmp .ne 10, 3) := by decide +kernel
theorem dX10_count_41 : decode cX10_count 41 = .ok (.aload_n 0, 1) := by decide +kernel
theorem dX10_count_42 : decode cX10_count 42 = .ok (.getfield 70, 3) := by decide +kernel
theorem dX10_count_45 : decode cX10_count 45 = .ok (.goto 4, 3) := by decide +kernel
theorem dX10_count_48 : decode cX10_count 48 = .ok (.iconst (-1), 1) := by decide +kernel
theorem dX10_count_49 : decode cX10_count 49 = .ok (.ireturn, 1) := by decide +kernel
theorem dX10_trace_0 : decode cX10_trace 0 = .ok (.aload_n 0, 1) := by decide +kernel
theorem dX10_trace_1 : decode cX10_trace 1 = .ok (.iconst 0, 1) := by decide +kernel
theorem dX10_trace_2 : decode cX10_trace 2 = .ok (.putfield 62, 3) := by decide +kernel
theorem dX10_trace_5 : decode cX10_trace 5 = .ok (.aload_n 0, 1) := by decide +kernel
theorem dX10_trace_6 : decode cX10_trace 6 = .ok (.getfield 188, 3) := by decide +kernel
theorem dX10_trace_9 : decode cX10_trace 9 = .ok (.lreturn, 1) := by decide +kernel
theorem dJ6_bitCount_0f7a4_0 : decode cJ6_bitCount_0f7a4 0 = .ok (.iload_n 0, 1) := by decide +kernel
theorem dJ6_bitCount_0f7a4_1 : decode cJ6_bitCount_0f7a4 1 = .ok (.iload_n 0, 1) := by decide +kernel
theorem dJ6_bitCount_0f7a4_2 : decode cJ6_bitCount_0f7a4 2 = .ok (.iconst 1, 1) := by decide +kernel
theorem dJ6_bitCount_0f7a4_3 : decode cJ6_bitCount_0f7a4 3 = .ok (.iushr, 1) := by decide +kernel
theorem dJ6_bitCount_0f7a4_4 : decode cJ6_bitCount_0f7a4 4 = .ok (.ldc_w 265, 3) := by decide +kernel
theorem dJ6_bitCount_0f7a4_7 : decode cJ6_bitCount_0f7a4 7 = .ok (.iand, 1) := by decide +kernel
theorem dJ6_bitCount_0f7a4_8 : decode cJ6_bitCount_0f7a4 8 = .ok (.isub, 1) := by decide +kernel
theorem dJ6_bitCount_0f7a4_9 : decode cJ6_bitCount_0f7a4 9 = .ok (.istore_n 0, 1) := by decide +kernel
theorem dJ6_bitCount_0f7a4_10 : decode cJ6_bitCount_0f7a4 10 = .ok (.iload_n 0, 1) := by decide +kernel
theorem dJ6_bitCount_0f7a4_11 : decode cJ6_bitCount_0f7a4 11 = .ok (.ldc_w 266, 3) := by decide +kernel
theorem dJ6_bitCount_0f7a4_14 : decode cJ6_bitCount_0f7a4 14 = .ok (.iand, 1) := by decide +kernel
theorem dJ6_bitCount_0f7a4_15 : decode cJ6_bitCount_0f7a4 15 = .ok (.iload_n 0, 1) := by decide +kernel
theorem dJ6_bitCount_0f7a4_16 : decode cJ6_bitCount_0f7a4 16 = .ok (.iconst 2, 1) := by decide +kernel
theorem dJ6_bitCount_0f7a4_17 : decode cJ6_bitCount_0f7a4 17 = .ok (.iushr, 1) := by decide +kernel
theorem dJ6_bitCount_0f7a4_18 : decode cJ6_bitCount_0f7a4 18 = .ok (.ldc_w 266, 3) := by decide +kernel
theorem dJ6_bitCount_0f7a4_21 : decode cJ6_bitCount_0f7a4 21 = .ok (.iand, 1) := by decide +kernel
theorem dJ6_bitCount_0f7a4_22 : decode cJ6_bitCount_0f7a4 22 = .ok (.iadd, 1) := by decide +kernel
theorem dJ6_bitCount_0f7a4_23 : decode cJ6_bitCount_0f7a4 23 = .ok (.istore_n 0, 1) := by decide +kernel
theorem dJ6_bitCount_0f7a4_24 : decode cJ6_bitCount_0f7a4 24 = .ok (.iload_n 0, 1) := by decide +kernel
theorem dJ6_bitCount_0f7a4_25 : decode cJ6_bitCount_0f7a4 25 = .ok (.iload_n 0, 1) := by decide +kernel
theorem dJ6_bitCount_0f7a4_26 : decode cJ6_bitCount_0f7a4 26 = .ok (.iconst 4, 1) := by decide +kernel
theorem dJ6_bitCount_0f7a4_27 : decode cJ6_bitCount_0f7a4 27 = .ok (.iushr, 1) := by decide +kernel
theorem dJ6_bitCount_0f7a4_28 : decode cJ6_bitCount_0f7a4 28 = .ok (.iadd, 1) := by decide +kernel
theorem dJ6_bitCount_0f7a4_29 : decode cJ6_bitCount_0f7a4 29 = .ok (.ldc_w 267, 3) := by decide +kernel
theorem dJ6_bitCount_0f7a4_32 : decode cJ6_bitCount_0f7a4 32 = .ok (.iand, 1) := by decide +kernel
theorem dJ6_bitCount_0f7a4_33 : decode cJ6_bitCount_0f7a4 33 = .ok (.istore_n 0, 1) := by decide +kernel
theorem dJ6_bitCount_0f7a4_34 : decode cJ6_bitCount_0f7a4 34 = .ok (.iload_n 0, 1) := by decide +kernel
theorem dJ6_bitCount_0f7a4_35 : decode cJ6_bitCount_0f7a4 35 = .ok (.iload_n 0, 1) := by decide +kernel
theorem dJ6_bitCount_0f7a4_36 : decode cJ6_bitCount_0f7a4 36 = .ok (.bipush 8, 2) := by decide +kernel
theorem dJ6_bitCount_0f7a4_38 : decode cJ6_bitCount_0f7a4 38 = .ok (.iushr, 1) := by decide +kernel
theorem dJ6_bitCount_0f7a4_39 : decode cJ6_bitCount_0f7a4 39 = .ok (.iadd, 1) := by decide +kernel
theorem dJ6_bitCount_0f7a4_40 : decode cJ6_bitCount_0f7a4 40 = .ok (.istore_n 0, 1) := by decide +kernel
theorem dJ6_bitCount_0f7a4_41 : decode cJ6_bitCount_0f7a4 41 = .ok (.iload_n 0, 1) := by decide +kernel
theorem dJ6_bitCount_0f7a4_42 : decode cJ6_bitCount_0f7a4 42 = .ok (.iload_n 0, 1) := by decide +kernel
theorem dJ6_bitCount_0f7a4_43 : decode cJ6_bitCount_0f7a4 43 = .ok (.bipush 16, 2) := by decide +kernel
theorem dJ6_bitCount_0f7a4_45 : decode cJ6_bitCount_0f7a4 45 = .ok (.iushr, 1) := by decide +kernel
theorem dJ6_bitCount_0f7a4_46 : decode cJ6_bitCount_0f7a4 46 = .ok (.iadd, 1) := by decide +kernel
theorem dJ6_bitCount_0f7a4_47 : decode cJ6_bitCount_0f7a4 47 = .ok (.istore_n 0, 1) := by decide +kernel
theorem dJ6_bitCount_0f7a4_48 : decode cJ6_bitCount_0f7a4 48 = .ok (.iload_n 0, 1) := by decide +kernel
theorem dJ6_bitCount_0f7a4_49 : decode cJ6_bitCount_0f7a4 49 = .ok (.bipush 63, 2) := by decide +kernel
theorem dJ6_bitCount_0f7a4_51 : decode cJ6_bitCount_0f7a4 51 = .ok (.iand, 1) := by decide +kernel
theorem dJ6_bitCount_0f7a4_52 : decode cJ6_bitCount_0f7a4 52 = .ok (.ireturn, 1) := by decide +kernel
theorem dJ9_abs_0f7a4_0 : decode cJ9_abs_0f7a4 0 = .ok (.iload_n 0, 1) := by decide +kernel
theorem dJ9_abs_0f7a4_1 : decode cJ9_abs_0f7a4 1 = .ok (.ifCond .ge 8, 3) := by decide +kernel
theorem dJ9_abs_0f7a4_4 : decode cJ9_abs_0f7a4 4 = .ok (.iload_n 0, 1) := by decide +kernel
theorem dJ9_abs_0f7a4_5 : decode cJ9_abs_0f7a4 5 = .ok (.ineg, 1) := by decide +kernel
theorem dJ9_abs_0f7a4_6 : decode cJ9_abs_0f7a4 6 = .ok (.goto 4, 3) := by decide +kernel
theorem dJ9_abs_0f7a4_9 : decode cJ9_abs_0f7a4 9 = .ok (.iload_n 0, 1) := by decide +kernel
theorem dJ9_abs_0f7a4_10 : decode cJ9_abs_0f7a4 10 = .ok (.ireturn, 1) := by decide +kernel
theorem dJ9_max_7cf53_0 : decode cJ9_max_7cf53 0 = .ok (.iload_n 0, 1) := by decide +kernel
theorem dJ9_max_7cf53_1 : decode cJ9_max_7cf53 1 = .ok (.iload_n 1, 1) := by decide +kernel
theorem dJ9_max_7cf53_2 : decode cJ9_max_7cf53 2 = .ok (.if_icmp .lt 7, 3) := by decide +kernel
theorem dJ9_max_7cf53_5 : decode cJ9_max_7cf53 5 = .ok (.iload_n 0, 1) := by decide +kernel
theorem dJ9_max_7cf53_6 : decode cJ9_max_7cf53 6 = .ok (.goto 4, 3) := by decide +kernel
theorem dJ9_max_7cf53_9 : decode cJ9_max_7cf53 9 = .ok (.iload_n 1, 1) := by decide +kernel
theorem dJ9_max_7cf53_10 : decode cJ9_max_7cf53 10 = .ok (.ireturn, 1) := by decide +kernel
theorem dJ9_min_7cf53_0 : decode cJ9_min_7cf53 0 = .ok (.iload_n 0, 1) := by decide +kernel
theorem dJ9_min_7cf53_1 : decode cJ9_min_7cf53 1 = .ok (.iload_n 1, 1) := by decide +kernel
theorem dJ9_min_7cf53_2 : decode cJ9_min_7cf53 2 = .ok (.if_icmp .gt 7, 3) := by decide +kernel
theorem dJ9_min_7cf53_5 : decode cJ9_min_7cf53 5 = .ok (.iload_n 0, 1) := by decide +kernel
theorem dJ9_min_7cf53_6 : decode cJ9_min_7cf53 6 = .ok (.goto 4, 3) := by decide +kernel
theorem dJ9_min_7cf53_9 : decode cJ9_min_7cf53 9 = .ok (.iload_n 1, 1) := by decide +kernel
theorem dJ9_min_7cf53_10 : decode cJ9_min_7cf53 10 = .ok (.ireturn, 1) := by decide +kernel
theorem dL_law_0 : decode cL_law 0 = .ok (.new 7, 3) := by decide +kernel
theorem dL_law_3 : decode cL_law 3 = .ok (.dup, 1) := by decide +kernel
theorem dL_law_4 : decode cL_law 4 = .ok (.invokespecial 9, 3) := by decide +kernel
theorem dL_law_7 : decode cL_law 7 = .ok (.astore_n 1, 1) := by decide +kernel
theorem dL_law_8 : decode cL_law 8 = .ok (.new 10, 3) := by decide +kernel
theorem dL_law_11 : decode cL_law 11 = .ok (.dup, 1) := by decide +kernel
theorem dL_law_12 : decode cL_law 12 = .ok (.invokespecial 12, 3) := by decide +kernel
theorem dL_law_15 : decode cL_law 15 = .ok (.astore_n 2, 1) := by decide +kernel
theorem dL_law_16 : decode cL_law 16 = .ok (.iconst 0, 1) := by decide +kernel
theorem dL_law_17 : decode cL_law 17 = .ok (.istore_n 3, 1) := by decide +kernel
theorem dL_law_18 : decode cL_law 18 = .ok (.iload_n 3, 1) := by decide +kernel
theorem dL_law_19 : decode cL_law 19 = .ok (.aload_n 0, 1) := by decide +kernel
theorem dL_law_20 : decode cL_law 20 = .ok (.arraylength, 1) := by decide +kernel
theorem dL_law_21 : decode cL_law 21 = .ok (.iconst 5, 1) := by decide +kernel
theorem dL_law_22 : decode cL_law 22 = .ok (.isub, 1) := by decide +kernel
theorem dL_law_23 : decode cL_law 23 = .ok (.if_icmp .gt 807, 3) := by decide +kernel
theorem dL_law_26 : decode cL_law 26 = .ok (.aload_n 0, 1) := by decide +kernel
theorem dL_law_27 : decode cL_law 27 = .ok (.iload_n 3, 1) := by decide +kernel
theorem dL_law_28 : decode cL_law 28 = .ok (.iaload, 1) := by decide +kernel
theorem dL_law_29 : decode cL_law 29 = .ok (.bipush 31, 2) := by decide +kernel
theorem dL_law_31 : decode cL_law 31 = .ok (.iand, 1) := by decide +kernel
theorem dL_law_32 : decode cL_law 32 = .ok (.tableswitch 792 0 24 #[116, 139, 152, 165, 198, 231, 254, 287, 310, 343, 376, 389, 412, 445, 468, 501, 544, 557, 580, 623, 676, 709, 732, 755, 778], 116) := by decide +kernel
theorem dL_law_148 : decode cL_law 148 = .ok (.aload_n 1, 1) := by decide +kernel
theorem dL_law_149 : decode cL_law 149 = .ok (.aload_n 0, 1) := by decide +kernel
theorem dL_law_150 : decode cL_law 150 = .ok (.iload_n 3, 1) := by decide +kernel
theorem dL_law_151 : decode cL_law 151 = .ok (.iconst 1, 1) := by decide +kernel
theorem dL_law_152 : decode cL_law 152 = .ok (.iadd, 1) := by decide +kernel
theorem dL_law_153 : decode cL_law 153 = .ok (.iaload, 1) := by decide +kernel
theorem dL_law_154 : decode cL_law 154 = .ok (.invokevirtual 13, 3) := by decide +kernel
theorem dL_law_157 : decode cL_law 157 = .ok (.aload_n 2, 1) := by decide +kernel
theorem dL_law_158 : decode cL_law 158 = .ok (.aload_n 0, 1) := by decide +kernel
theorem dL_law_159 : decode cL_law 159 = .ok (.iload_n 3, 1) := by decide +kernel
theorem dL_law_160 : decode cL_law 160 = .ok (.iconst 1, 1) := by decide +kernel
theorem dL_law_161 : decode cL_law 161 = .ok (.iadd, 1) := by decide +kernel
theorem dL_law_162 : decode cL_law 162 = .ok (.iaload, 1) := by decide +kernel
theorem dL_law_163 : decode cL_law 163 = .ok (.invokevirtual 17, 3) := by decide +kernel
theorem dL_law_166 : decode cL_law 166 = .ok (.if_icmp .eq 658, 3) := by decide +kernel
theorem dL_law_169 : decode cL_law 169 = .ok (.iconst 0, 1) := by decide +kernel
theorem dL_law_170 : decode cL_law 170 = .ok (.ireturn, 1) := by decide +kernel
theorem dL_law_171 : decode cL_law 171 = .ok (.aload_n 1, 1) := by decide +kernel
theorem dL_law_172 : decode cL_law 172 = .ok (.invokevirtual 18, 3) := by decide +kernel
theorem dL_law_175 : decode cL_law 175 = .ok (.aload_n 2, 1) := by decide +kernel
theorem dL_law_176 : decode cL_law 176 = .ok (.invokevirtual 22, 3) := by decide +kernel
theorem dL_law_179 : decode cL_law 179 = .ok (.if_icmp .eq 645, 3) := by decide +kernel
theorem dL_law_182 : decode cL_law 182 = .ok (.iconst 0, 1) := by decide +kernel
theorem dL_law_183 : decode cL_law 183 = .ok (.ireturn, 1) := by decide +kernel
theorem dL_law_184 : decode cL_law 184 = .ok (.aload_n 1, 1) := by decide +kernel
theorem dL_law_185 : decode cL_law 185 = .ok (.invokevirtual 23, 3) := by decide +kernel
theorem dL_law_188 : decode cL_law 188 = .ok (.aload_n 2, 1) := by decide +kernel
theorem dL_law_189 : decode cL_law 189 = .ok (.invokevirtual 26, 3) := by decide +kernel
theorem dL_law_192 : decode cL_law 192 = .ok (.if_icmp .eq 632, 3) := by decide +kernel
theorem dL_law_195 : decode cL_law 195 = .ok (.iconst 0, 1) := by decide +kernel
theorem dL_law_196 : decode cL_law 196 = .ok (.ireturn, 1) := by decide +kernel
theorem dL_law_197 : decode cL_law 197 = .ok (.aload_n 1, 1) := by decide +kernel
theorem dL_law_198 : decode cL_law 198 = .ok (.aload_n 0, 1) := by decide +kernel
theorem dL_law_199 : decode cL_law 199 = .ok (.iload_n 3, 1) := by decide +kernel
theorem dL_law_200 : decode cL_law 200 = .ok (.iconst 1, 1) := by decide +kernel
theorem dL_law_201 : decode cL_law 201 = .ok (.iadd, 1) := by decide +kernel
theorem dL_law_202 : decode cL_law 202 = .ok (.iaload, 1) := by decide +kernel
theorem dL_law_203 : decode cL_law 203 = .ok (.aload_n 0, 1) := by decide +kernel
theorem dL_law_204 : decode cL_law 204 = .ok (.iload_n 3, 1) := by decide +kernel
theorem dL_law_205 : decode cL_law 205 = .ok (.iconst 2, 1) := by decide +kernel
theorem dL_law_206 : decode cL_law 206 = .ok (.iadd, 1) := by decide +kernel
theorem dL_law_207 : decode cL_law 207 = .ok (.iaload, 1) := by decide +kernel
theorem dL_law_208 : decode cL_law 208 = .ok (.invokevirtual 27, 3) := by decide +kernel
theorem dL_law_211 : decode cL_law 211 = .ok (.aload_n 2, 1) := by decide +kernel
theorem dL_law_212 : decode cL_law 212 = .ok (.aload_n 0, 1) := by decide +kernel
theorem dL_law_213 : decode cL_law 213 = .ok (.iload_n 3, 1) := by decide +kernel
theorem dL_law_214 : decode cL_law 214 = .ok (.iconst 1, 1) := by decide +kernel
theorem dL_law_215 : decode cL_law 215 = .ok (.iadd, 1) := by decide +kernel
theorem dL_law_216 : decode cL_law 216 = .ok (.iaload, 1) := by decide +kernel
theorem dL_law_217 : decode cL_law 217 = .ok (.aload_n 0, 1) := by decide +kernel
theorem dL_law_218 : decode cL_law 218 = .ok (.iload_n 3, 1) := by decide +kernel
theorem dL_law_219 : decode cL_law 219 = .ok (.iconst 2, 1) := by decide +kernel
theorem dL_law_220 : decode cL_law 220 = .ok (.iadd, 1) := by decide +kernel
theorem dL_law_221 : decode cL_law 221 = .ok (.iaload, 1) := by decide +kernel
theorem dL_law_222 : decode cL_law 222 = .ok (.invokevirtual 31, 3) := by decide +kernel
theorem dL_law_225 : decode cL_law 225 = .ok (.if_icmp .eq 599, 3) := by decide +kernel
theorem dL_law_228 : decode cL_law 228 = .ok (.iconst 0, 1) := by decide +kernel
theorem dL_law_229 : decode cL_law 229 = .ok (.ireturn, 1) := by decide +kernel
theorem dL_law_230 : decode cL_law 230 = .ok (.aload_n 1, 1) := by decide +kernel
theorem dL_law_231 : decode cL_law 231 = .ok (.aload_n 0, 1) := by decide +kernel
theorem dL_law_232 : decode cL_law 232 = .ok (.iload_n 3, 1) := by decide +kernel
theorem dL_law_233 : decode cL_law 233 = .ok (.iconst 1, 1) := by decide +kernel
theorem dL_law_234 : decode cL_law 234 = .ok (.iadd, 1) := by decide +kernel
theorem dL_law_235 : decode cL_law 235 = .ok (.iaload, 1) := by decide +kernel
theorem dL_law_236 : decode cL_law 236 = .ok (.aload_n 0, 1) := by decide +kernel
theorem dL_law_237 : decode cL_law 237 = .ok (.iload_n 3, 1) := by decide +kernel
theorem dL_law_238 : decode cL_law 238 = .ok (.iconst 2, 1) := by decide +kernel
theorem dL_law_239 : decode cL_law 239 = .ok (.iadd, 1) := by decide +kernel
theorem dL_law_240 : decode cL_law 240 = .ok (.iaload, 1) := by decide +kernel
theorem dL_law_241 : decode cL_law 241 = .ok (.invokevirtual 32, 3) := by decide +kernel
theorem dL_law_244 : decode cL_law 244 = .ok (.aload_n 2, 1) := by decide +kernel
theorem dL_law_245 : decode cL_law 245 = .ok (.aload_n 0, 1) := by decide +kernel
theorem dL_law_246 : decode cL_law 246 = .ok (.iload_n 3, 1) := by decide +kernel
theorem dL_law_247 : decode cL_law 247 = .ok (.iconst 1, 1) := by decide +kernel
theorem dL_law_248 : decode cL_law 248 = .ok (.iadd, 1) := by decide +kernel
theorem dL_law_249 : decode cL_law 249 = .ok (.iaload, 1) := by decide +kernel
theorem dL_law_250 : decode cL_law 250 = .ok (.aload_n 0, 1) := by decide +kernel
theorem dL_law_251 : decode cL_law 251 = .ok (.iload_n 3, 1) := by decide +kernel
theorem dL_law_252 : decode cL_law 252 = .ok (.iconst 2, 1) := by decide +kernel
theorem dL_law_253 : decode cL_law 253 = .ok (.iadd, 1) := by decide +kernel
theorem dL_law_254 : decode cL_law 254 = .ok (.iaload, 1) := by decide +kernel
theorem dL_law_255 : decode cL_law 255 = .ok (.invokevirtual 35, 3) := by decide +kernel
theorem dL_law_258 : decode cL_law 258 = .ok (.if_icmp .eq 566, 3) := by decide +kernel
theorem dL_law_261 : decode cL_law 261 = .ok (.iconst 0, 1) := by decide +kernel
theorem dL_law_262 : decode cL_law 262 = .ok (.ireturn, 1) := by decide +kernel
theorem dL_law_263 : decode cL_law 263 = .ok (.aload_n 1, 1) := by decide +kernel
theorem dL_law_264 : decode cL_law 264 = .ok (.aload_n 0, 1) := by decide +kernel
theorem dL_law_265 : decode cL_law 265 = .ok (.iload_n 3, 1) := by decide +kernel
theorem dL_law_266 : decode cL_law 266 = .ok (.iconst 1, 1) := by decide +kernel
theorem dL_law_267 : decode cL_law 267 = .ok (.iadd, 1) := by decide +kernel
theorem dL_law_268 : decode cL_law 268 = .ok (.iaload, 1) := by decide +kernel
theorem dL_law_269 : decode cL_law 269 = .ok (.invokevirtual 36, 3) := by decide +kernel
theorem dL_law_272 : decode cL_law 272 = .ok (.aload_n 2, 1) := by decide +kernel
theorem dL_law_273 : decode cL_law 273 = .ok (.aload_n 0, 1) := by decide +kernel
theorem dL_law_274 : decode cL_law 274 = .ok (.iload_n 3, 1) := by decide +kernel
theorem dL_law_275 : decode cL_law 275 = .ok (.iconst 1, 1) := by decide +kernel
theorem dL_law_276 : decode cL_law 276 = .ok (.iadd, 1) := by decide +kernel
theorem dL_law_277 : decode cL_law 277 = .ok (.iaload, 1) := by decide +kernel
theorem dL_law_278 : decode cL_law 278 = .ok (.invokevirtual 39, 3) := by decide +kernel
theorem dL_law_281 : decode cL_law 281 = .ok (.if_icmp .eq 543, 3) := by decide +kernel
theorem dL_law_284 : decode cL_law 284 = .ok (.iconst 0, 1) := by decide +kernel
theorem dL_law_285 : decode cL_law 285 = .ok (.ireturn, 1) := by decide +kernel
theorem dL_law_286 : decode cL_law 286 = .ok (.aload_n 1, 1) := by decide +kernel
theorem dL_law_287 : decode cL_law 287 = .ok (.aload_n 0, 1) := by decide +kernel
theorem dL_law_288 : decode cL_law 288 = .ok (.iload_n 3, 1) := by decide +kernel
theorem dL_law_289 : decode cL_law 289 = .ok (.iconst 1, 1) := by decide +kernel
theorem dL_law_290 : decode cL_law 290 = .ok (.iadd, 1) := by decide +kernel
theorem dL_law_291 : decode cL_law 291 = .ok (.iaload, 1) := by decide +kernel
theorem dL_law_292 : decode cL_law 292 = .ok (.aload_n 0, 1) := by decide +kernel
theorem dL_law_293 : decode cL_law 293 = .ok (.iload_n 3, 1) := by decide +kernel
theorem dL_law_294 : decode cL_law 294 = .ok (.iconst 2, 1) := by decide +kernel
theorem dL_law_295 : decode cL_law 295 = .ok (.iadd, 1) := by decide +kernel
theorem dL_law_296 : decode cL_law 296 = .ok (.iaload, 1) := by decide +kernel
theorem dL_law_297 : decode cL_law 297 = .ok (.invokevirtual 40, 3) := by decide +kernel
theorem dL_law_300 : decode cL_law 300 = .ok (.aload_n 2, 1) := by decide +kernel
theorem dL_law_301 : decode cL_law 301 = .ok (.aload_n 0, 1) := by decide +kernel
theorem dL_law_302 : decode cL_law 302 = .ok (.iload_n 3, 1) := by decide +kernel
theorem dL_law_303 : decode cL_law 303 = .ok (.iconst 1, 1) := by decide +kernel
theorem dL_law_304 : decode cL_law 304 = .ok (.iadd, 1) := by decide +kernel
theorem dL_law_305 : decode cL_law 305 = .ok (.iaload, 1) := by decide +kernel
theorem dL_law_306 : decode cL_law 306 = .ok (.aload_n 0, 1) := by decide +kernel
theorem dL_law_307 : decode cL_law 307 = .ok (.iload_n 3, 1) := by decide +kernel
theorem dL_law_308 : decode cL_law 308 = .ok (.iconst 2, 1) := by decide +kernel
theorem dL_law_309 : decode cL_law 309 = .ok (.iadd, 1) := by decide +kernel
theorem dL_law_310 : decode cL_law 310 = .ok (.iaload, 1) := by decide +kernel
theorem dL_law_311 : decode cL_law 311 = .ok (.invokevirtual 43, 3) := by decide +kernel
theorem dL_law_314 : decode cL_law 314 = .ok (.if_icmp .eq 510, 3) := by decide +kernel
theorem dL_law_317 : decode cL_law 317 = .ok (.iconst 0, 1) := by decide +kernel
theorem dL_law_318 : decode cL_law 318 = .ok (.ireturn, 1) := by decide +kernel
theorem dL_law_319 : decode cL_law 319 = .ok (.aload_n 1, 1) := by decide +kernel
theorem dL_law_320 : decode cL_law 320 = .ok (.aload_n 0, 1) := by decide +kernel
theorem dL_law_321 : decode cL_law 321 = .ok (.iload_n 3, 1) := by decide +kernel
theorem dL_law_322 : decode cL_law 322 = .ok (.iconst 1, 1) := by decide +kernel
theorem dL_law_323 : decode cL_law 323 = .ok (.iadd, 1) := by decide +kernel
theorem dL_law_324 : decode cL_law 324 = .ok (.iaload, 1) := by decide +kernel
theorem dL_law_325 : decode cL_law 325 = .ok (.invokevirtual 44, 3) := by decide +kernel
theorem dL_law_328 : decode cL_law 328 = .ok (.aload_n 2, 1) := by decide +kernel
theorem dL_law_329 : decode cL_law 329 = .ok (.aload_n 0, 1) := by decide +kernel
theorem dL_law_330 : decode cL_law 330 = .ok (.iload_n 3, 1) := by decide +kernel
theorem dL_law_331 : decode cL_law 331 = .ok (.iconst 1, 1) := by decide +kernel
theorem dL_law_332 : decode cL_law 332 = .ok (.iadd, 1) := by decide +kernel
theorem dL_law_333 : decode cL_law 333 = .ok (.iaload, 1) := by decide +kernel
theorem dL_law_334 : decode cL_law 334 = .ok (.invokevirtual 47, 3) := by decide +kernel
theorem dL_law_337 : decode cL_law 337 = .ok (.if_icmp .eq 487, 3) := by decide +kernel
theorem dL_law_340 : decode cL_law 340 = .ok (.iconst 0, 1) := by decide +kernel
theorem dL_law_341 : decode cL_law 341 = .ok (.ireturn, 1) := by decide +kernel
theorem dL_law_342 : decode cL_law 342 = .ok (.aload_n 1, 1) := by decide +kernel
theorem dL_law_343 : decode cL_law 343 = .ok (.aload_n 0, 1) := by decide +kernel
theorem dL_law_344 : decode cL_law 344 = .ok (.iload_n 3, 1) := by decide +kernel
theorem dL_law_345 : decode cL_law 345 = .ok (.iconst 1, 1) := by decide +kernel
theorem dL_law_346 : decode cL_law 346 = .ok (.iadd, 1) := by decide +kernel
theorem dL_law_347 : decode cL_law 347 = .ok (.iaload, 1) := by decide +kernel
theorem dL_law_348 : decode cL_law 348 = .ok (.aload_n 0, 1) := by decide +kernel
theorem dL_law_349 : decode cL_law 349 = .ok (.iload_n 3, 1) := by decide +kernel
theorem dL_law_350 : decode cL_law 350 = .ok (.iconst 2, 1) := by decide +kernel
theorem dL_law_351 : decode cL_law 351 = .ok (.iadd, 1) := by decide +kernel
theorem dL_law_352 : decode cL_law 352 = .ok (.iaload, 1) := by decide +kernel
theorem dL_law_353 : decode cL_law 353 = .ok (.invokevirtual 48, 3) := by decide +kernel
theorem dL_law_356 : decode cL_law 356 = .ok (.aload_n 2, 1) := by decide +kernel
theorem dL_law_357 : decode cL_law 357 = .ok (.aload_n 0, 1) := by decide +kernel
theorem dL_law_358 : decode cL_law 358 = .ok (.iload_n 3, 1) := by decide +kernel
theorem dL_law_359 : decode cL_law 359 = .ok (.iconst 1, 1) := by decide +kernel
theorem dL_law_360 : decode cL_law 360 = .ok (.iadd, 1) := by decide +kernel
theorem dL_law_361 : decode cL_law 361 = .ok (.iaload, 1) := by decide +kernel
theorem dL_law_362 : decode cL_law 362 = .ok (.aload_n 0, 1) := by decide +kernel
theorem dL_law_363 : decode cL_law 363 = .ok (.iload_n 3, 1) := by decide +kernel
theorem dL_law_364 : decode cL_law 364 = .ok (.iconst 2, 1) := by decide +kernel
theorem dL_law_365 : decode cL_law 365 = .ok (.iadd, 1) := by decide +kernel
theorem dL_law_366 : decode cL_law 366 = .ok (.iaload, 1) := by decide +kernel
theorem dL_law_367 : decode cL_law 367 = .ok (.invokevirtual 51, 3) := by decide +kernel
theorem dL_law_370 : decode cL_law 370 = .ok (.if_icmp .eq 454, 3) := by decide +kernel
theorem dL_law_373 : decode cL_law 373 = .ok (.iconst 0, 1) := by decide +kernel
theorem dL_law_374 : decode cL_law 374 = .ok (.ireturn, 1) := by decide +kernel
theorem dL_law_375 : decode cL_law 375 = .ok (.aload_n 1, 1) := by decide +kernel
theorem dL_law_376 : decode cL_law 376 = .ok (.aload_n 0, 1) := by decide +kernel
theorem dL_law_377 : decode cL_law 377 = .ok (.iload_n 3, 1) := by decide +kernel
theorem dL_law_378 : decode cL_law 378 = .ok (.iconst 1, 1) := by decide +kernel
theorem dL_law_379 : decode cL_law 379 = .ok (.iadd, 1) := by decide +kernel
theorem dL_law_380 : decode cL_law 380 = .ok (.iaload, 1) := by decide +kernel
theorem dL_law_381 : decode cL_law 381 = .ok (.aload_n 0, 1) := by decide +kernel
theorem dL_law_382 : decode cL_law 382 = .ok (.iload_n 3, 1) := by decide +kernel
theorem dL_law_383 : decode cL_law 383 = .ok (.iconst 2, 1) := by decide +kernel
theorem dL_law_384 : decode cL_law 384 = .ok (.iadd, 1) := by decide +kernel
theorem dL_law_385 : decode cL_law 385 = .ok (.iaload, 1) := by decide +kernel
theorem dL_law_386 : decode cL_law 386 = .ok (.invokevirtual 52, 3) := by decide +kernel
theorem dL_law_389 : decode cL_law 389 = .ok (.aload_n 2, 1) := by decide +kernel
theorem dL_law_390 : decode cL_law 390 = .ok (.aload_n 0, 1) := by decide +kernel
theorem dL_law_391 : decode cL_law 391 = .ok (.iload_n 3, 1) := by decide +kernel
theorem dL_law_392 : decode cL_law 392 = .ok (.iconst 1, 1) := by decide +kernel
theorem dL_law_393 : decode cL_law 393 = .ok (.iadd, 1) := by decide +kernel
theorem dL_law_394 : decode cL_law 394 = .ok (.iaload, 1) := by decide +kernel
theorem dL_law_395 : decode cL_law 395 = .ok (.aload_n 0, 1) := by decide +kernel
theorem dL_law_396 : decode cL_law 396 = .ok (.iload_n 3, 1) := by decide +kernel
theorem dL_law_397 : decode cL_law 397 = .ok (.iconst 2, 1) := by decide +kernel
theorem dL_law_398 : decode cL_law 398 = .ok (.iadd, 1) := by decide +kernel
theorem dL_law_399 : decode cL_law 399 = .ok (.iaload, 1) := by decide +kernel
theorem dL_law_400 : decode cL_law 400 = .ok (.invokevirtual 55, 3) := by decide +kernel
theorem dL_law_403 : decode cL_law 403 = .ok (.if_icmp .eq 421, 3) := by decide +kernel
theorem dL_law_406 : decode cL_law 406 = .ok (.iconst 0, 1) := by decide +kernel
theorem dL_law_407 : decode cL_law 407 = .ok (.ireturn, 1) := by decide +kernel
theorem dL_law_408 : decode cL_law 408 = .ok (.aload_n 1, 1) := by decide +kernel
theorem dL_law_409 : decode cL_law 409 = .ok (.invokevirtual 56, 3) := by decide +kernel
theorem dL_law_412 : decode cL_law 412 = .ok (.aload_n 2, 1) := by decide +kernel
theorem dL_law_413 : decode cL_law 413 = .ok (.invokevirtual 59, 3) := by decide +kernel
theorem dL_law_416 : decode cL_law 416 = .ok (.if_icmp .eq 408, 3) := by decide +kernel
theorem dL_law_419 : decode cL_law 419 = .ok (.iconst 0, 1) := by decide +kernel
theorem dL_law_420 : decode cL_law 420 = .ok (.ireturn, 1) := by decide +kernel
theorem dL_law_421 : decode cL_law 421 = .ok (.aload_n 1, 1) := by decide +kernel
theorem dL_law_422 : decode cL_law 422 = .ok (.aload_n 0, 1) := by decide +kernel
theorem dL_law_423 : decode cL_law 423 = .ok (.iload_n 3, 1) := by decide +kernel
theorem dL_law_424 : decode cL_law 424 = .ok (.iconst 1, 1) := by decide +kernel
theorem dL_law_425 : decode cL_law 425 = .ok (.iadd, 1) := by decide +kernel
theorem dL_law_426 : decode cL_law 426 = .ok (.iaload, 1) := by decide +kernel
theorem dL_law_427 : decode cL_law 427 = .ok (.invokevirtual 60, 3) := by decide +kernel
theorem dL_law_430 : decode cL_law 430 = .ok (.aload_n 2, 1) := by decide +kernel
theorem dL_law_431 : decode cL_law 431 = .ok (.aload_n 0, 1) := by decide +kernel
theorem dL_law_432 : decode cL_law 432 = .ok (.iload_n 3, 1) := by decide +kernel
theorem dL_law_433 : decode cL_law 433 = .ok (.iconst 1, 1) := by decide +kernel
theorem dL_law_434 : decode cL_law 434 = .ok (.iadd, 1) := by decide +kernel
theorem dL_law_435 : decode cL_law 435 = .ok (.iaload, 1) := by decide +kernel
theorem dL_law_436 : decode cL_law 436 = .ok (.invokevirtual 63, 3) := by decide +kernel
theorem dL_law_439 : decode cL_law 439 = .ok (.if_icmp .eq 385, 3) := by decide +kernel
theorem dL_law_442 : decode cL_law 442 = .ok (.iconst 0, 1) := by decide +kernel
theorem dL_law_443 : decode cL_law 443 = .ok (.ireturn, 1) := by decide +kernel
theorem dL_law_444 : decode cL_law 444 = .ok (.aload_n 1, 1) := by decide +kernel
theorem dL_law_445 : decode cL_law 445 = .ok (.aload_n 0, 1) := by decide +kernel
theorem dL_law_446 : decode cL_law 446 = .ok (.iload_n 3, 1) := by decide +kernel
theorem dL_law_447 : decode cL_law 447 = .ok (.iconst 1, 1) := by decide +kernel
theorem dL_law_448 : decode cL_law 448 = .ok (.iadd, 1) := by decide +kernel
theorem dL_law_449 : decode cL_law 449 = .ok (.iaload, 1) := by decide +kernel
theorem dL_law_450 : decode cL_law 450 = .ok (.aload_n 0, 1) := by decide +kernel
theorem dL_law_451 : decode cL_law 451 = .ok (.iload_n 3, 1) := by decide +kernel
theorem dL_law_452 : decode cL_law 452 = .ok (.iconst 2, 1) := by decide +kernel
theorem dL_law_453 : decode cL_law 453 = .ok (.iadd, 1) := by decide +kernel
theorem dL_law_454 : decode cL_law 454 = .ok (.iaload, 1) := by decide +kernel
theorem dL_law_455 : decode cL_law 455 = .ok (.invokevirtual 64, 3) := by decide +kernel
theorem dL_law_458 : decode cL_law 458 = .ok (.aload_n 2, 1) := by decide +kernel
theorem dL_law_459 : decode cL_law 459 = .ok (.aload_n 0, 1) := by decide +kernel
theorem dL_law_460 : decode cL_law 460 = .ok (.iload_n 3, 1) := by decide +kernel
theorem dL_law_461 : decode cL_law 461 = .ok (.iconst 1, 1) := by decide +kernel
theorem dL_law_462 : decode cL_law 462 = .ok (.iadd, 1) := by decide +kernel
theorem dL_law_463 : decode cL_law 463 = .ok (.iaload, 1) := by decide +kernel
theorem dL_law_464 : decode cL_law 464 = .ok (.aload_n 0, 1) := by decide +kernel
theorem dL_law_465 : decode cL_law 465 = .ok (.iload_n 3, 1) := by decide +kernel
theorem dL_law_466 : decode cL_law 466 = .ok (.iconst 2, 1) := by decide +kernel
theorem dL_law_467 : decode cL_law 467 = .ok (.iadd, 1) := by decide +kernel
theorem dL_law_468 : decode cL_law 468 = .ok (.iaload, 1) := by decide +kernel
theorem dL_law_469 : decode cL_law 469 = .ok (.invokevirtual 67, 3) := by decide +kernel
theorem dL_law_472 : decode cL_law 472 = .ok (.if_icmp .eq 352, 3) := by decide +kernel
theorem dL_law_475 : decode cL_law 475 = .ok (.iconst 0, 1) := by decide +kernel
theorem dL_law_476 : decode cL_law 476 = .ok (.ireturn, 1) := by decide +kernel
theorem dL_law_477 : decode cL_law 477 = .ok (.aload_n 1, 1) := by decide +kernel
theorem dL_law_478 : decode cL_law 478 = .ok (.aload_n 0, 1) := by decide +kernel
theorem dL_law_479 : decode cL_law 479 = .ok (.iload_n 3, 1) := by decide +kernel
theorem dL_law_480 : decode cL_law 480 = .ok (.iconst 1, 1) := by decide +kernel
theorem dL_law_481 : decode cL_law 481 = .ok (.iadd, 1) := by decide +kernel
theorem dL_law_482 : decode cL_law 482 = .ok (.iaload, 1) := by decide +kernel
theorem dL_law_483 : decode cL_law 483 = .ok (.invokevirtual 68, 3) := by decide +kernel
theorem dL_law_486 : decode cL_law 486 = .ok (.aload_n 2, 1) := by decide +kernel
theorem dL_law_487 : decode cL_law 487 = .ok (.aload_n 0, 1) := by decide +kernel
theorem dL_law_488 : decode cL_law 488 = .ok (.iload_n 3, 1) := by decide +kernel
theorem dL_law_489 : decode cL_law 489 = .ok (.iconst 1, 1) := by decide +kernel
theorem dL_law_490 : decode cL_law 490 = .ok (.iadd, 1) := by decide +kernel
theorem dL_law_491 : decode cL_law 491 = .ok (.iaload, 1) := by decide +kernel
theorem dL_law_492 : decode cL_law 492 = .ok (.invokevirtual 71, 3) := by decide +kernel
theorem dL_law_495 : decode cL_law 495 = .ok (.if_icmp .eq 329, 3) := by decide +kernel
theorem dL_law_498 : decode cL_law 498 = .ok (.iconst 0, 1) := by decide +kernel
theorem dL_law_499 : decode cL_law 499 = .ok (.ireturn, 1) := by decide +kernel
theorem dL_law_500 : decode cL_law 500 = .ok (.aload_n 1, 1) := by decide +kernel
theorem dL_law_501 : decode cL_law 501 = .ok (.aload_n 0, 1) := by decide +kernel
theorem dL_law_502 : decode cL_law 502 = .ok (.iload_n 3, 1) := by decide +kernel
theorem dL_law_503 : decode cL_law 503 = .ok (.iconst 1, 1) := by decide +kernel
theorem dL_law_504 : decode cL_law 504 = .ok (.iadd, 1) := by decide +kernel
theorem dL_law_505 : decode cL_law 505 = .ok (.iaload, 1) := by decide +kernel
theorem dL_law_506 : decode cL_law 506 = .ok (.aload_n 0, 1) := by decide +kernel
theorem dL_law_507 : decode cL_law 507 = .ok (.iload_n 3, 1) := by decide +kernel
theorem dL_law_508 : decode cL_law 508 = .ok (.iconst 2, 1) := by decide +kernel
theorem dL_law_509 : decode cL_law 509 = .ok (.iadd, 1) := by decide +kernel
theorem dL_law_510 : decode cL_law 510 = .ok (.iaload, 1) := by decide +kernel
theorem dL_law_511 : decode cL_law 511 = .ok (.invokevirtual 72, 3) := by decide +kernel
theorem dL_law_514 : decode cL_law 514 = .ok (.aload_n 2, 1) := by decide +kernel
theorem dL_law_515 : decode cL_law 515 = .ok (.aload_n 0, 1) := by decide +kernel
theorem dL_law_516 : decode cL_law 516 = .ok (.iload_n 3, 1) := by decide +kernel
theorem dL_law_517 : decode cL_law 517 = .ok (.iconst 1, 1) := by decide +kernel
theorem dL_law_518 : decode cL_law 518 = .ok (.iadd, 1) := by decide +kernel
theorem dL_law_519 : decode cL_law 519 = .ok (.iaload, 1) := by decide +kernel
theorem dL_law_520 : decode cL_law 520 = .ok (.aload_n 0, 1) := by decide +kernel
theorem dL_law_521 : decode cL_law 521 = .ok (.iload_n 3, 1) := by decide +kernel
theorem dL_law_522 : decode cL_law 522 = .ok (.iconst 2, 1) := by decide +kernel
theorem dL_law_523 : decode cL_law 523 = .ok (.iadd, 1) := by decide +kernel
theorem dL_law_524 : decode cL_law 524 = .ok (.iaload, 1) := by decide +kernel
theorem dL_law_525 : decode cL_law 525 = .ok (.invokevirtual 75, 3) := by decide +kernel
theorem dL_law_528 : decode cL_law 528 = .ok (.if_icmp .eq 296, 3) := by decide +kernel
theorem dL_law_531 : decode cL_law 531 = .ok (.iconst 0, 1) := by decide +kernel
theorem dL_law_532 : decode cL_law 532 = .ok (.ireturn, 1) := by decide +kernel
theorem dL_law_533 : decode cL_law 533 = .ok (.aload_n 1, 1) := by decide +kernel
theorem dL_law_534 : decode cL_law 534 = .ok (.aload_n 0, 1) := by decide +kernel
theorem dL_law_535 : decode cL_law 535 = .ok (.iload_n 3, 1) := by decide +kernel
theorem dL_law_536 : decode cL_law 536 = .ok (.iconst 1, 1) := by decide +kernel
theorem dL_law_537 : decode cL_law 537 = .ok (.iadd, 1) := by decide +kernel
theorem dL_law_538 : decode cL_law 538 = .ok (.iaload, 1) := by decide +kernel
theorem dL_law_539 : decode cL_law 539 = .ok (.aload_n 0, 1) := by decide +kernel
theorem dL_law_540 : decode cL_law 540 = .ok (.iload_n 3, 1) := by decide +kernel
theorem dL_law_541 : decode cL_law 541 = .ok (.iconst 2, 1) := by decide +kernel
theorem dL_law_542 : decode cL_law 542 = .ok (.iadd, 1) := by decide +kernel
theorem dL_law_543 : decode cL_law 543 = .ok (.iaload, 1) := by decide +kernel
theorem dL_law_544 : decode cL_law 544 = .ok (.aload_n 0, 1) := by decide +kernel
theorem dL_law_545 : decode cL_law 545 = .ok (.iload_n 3, 1) := by decide +kernel
theorem dL_law_546 : decode cL_law 546 = .ok (.iconst 3, 1) := by decide +kernel
theorem dL_law_547 : decode cL_law 547 = .ok (.iadd, 1) := by decide +kernel
theorem dL_law_548 : decode cL_law 548 = .ok (.iaload, 1) := by decide +kernel
theorem dL_law_549 : decode cL_law 549 = .ok (.invokevirtual 76, 3) := by decide +kernel
theorem dL_law_552 : decode cL_law 552 = .ok (.aload_n 2, 1) := by decide +kernel
theorem dL_law_553 : decode cL_law 553 = .ok (.aload_n 0, 1) := by decide +kernel
theorem dL_law_554 : decode cL_law 554 = .ok (.iload_n 3, 1) := by decide +kernel
theorem dL_law_555 : decode cL_law 555 = .ok (.iconst 1, 1) := by decide +kernel
theorem dL_law_556 : decode cL_law 556 = .ok (.iadd, 1) := by decide +kernel
theorem dL_law_557 : decode cL_law 557 = .ok (.iaload, 1) := by decide +kernel
theorem dL_law_558 : decode cL_law 558 = .ok (.aload_n 0, 1) := by decide +kernel
theorem dL_law_559 : decode cL_law 559 = .ok (.iload_n 3, 1) := by decide +kernel
theorem dL_law_560 : decode cL_law 560 = .ok (.iconst 2, 1) := by decide +kernel
theorem dL_law_561 : decode cL_law 561 = .ok (.iadd, 1) := by decide +kernel
theorem dL_law_562 : decode cL_law 562 = .ok (.iaload, 1) := by decide +kernel
theorem dL_law_563 : decode cL_law 563 = .ok (.aload_n 0, 1) := by decide +kernel
theorem dL_law_564 : decode cL_law 564 = .ok (.iload_n 3, 1) := by decide +kernel
theorem dL_law_565 : decode cL_law 565 = .ok (.iconst 3, 1) := by decide +kernel
theorem dL_law_566 : decode cL_law 566 = .ok (.iadd, 1) := by decide +kernel
theorem dL_law_567 : decode cL_law 567 = .ok (.iaload, 1) := by decide +kernel
theorem dL_law_568 : decode cL_law 568 = .ok (.invokevirtual 80, 3) := by decide +kernel
theorem dL_law_571 : decode cL_law 571 = .ok (.if_icmp .eq 253, 3) := by decide +kernel
theorem dL_law_574 : decode cL_law 574 = .ok (.iconst 0, 1) := by decide +kernel
theorem dL_law_575 : decode cL_law 575 = .ok (.ireturn, 1) := by decide +kernel
theorem dL_law_576 : decode cL_law 576 = .ok (.aload_n 1, 1) := by decide +kernel
theorem dL_law_577 : decode cL_law 577 = .ok (.invokevirtual 81, 3) := by decide +kernel
theorem dL_law_580 : decode cL_law 580 = .ok (.aload_n 2, 1) := by decide +kernel
theorem dL_law_581 : decode cL_law 581 = .ok (.invokevirtual 84, 3) := by decide +kernel
theorem dL_law_584 : decode cL_law 584 = .ok (.if_icmp .eq 240, 3) := by decide +kernel
theorem dL_law_587 : decode cL_law 587 = .ok (.iconst 0, 1) := by decide +kernel
theorem dL_law_588 : decode cL_law 588 = .ok (.ireturn, 1) := by decide +kernel
theorem dL_law_589 : decode cL_law 589 = .ok (.aload_n 1, 1) := by decide +kernel
theorem dL_law_590 : decode cL_law 590 = .ok (.aload_n 0, 1) := by decide +kernel
theorem dL_law_591 : decode cL_law 591 = .ok (.iload_n 3, 1) := by decide +kernel
theorem dL_law_592 : decode cL_law 592 = .ok (.iconst 1, 1) := by decide +kernel
theorem dL_law_593 : decode cL_law 593 = .ok (.iadd, 1) := by decide +kernel
theorem dL_law_594 : decode cL_law 594 = .ok (.iaload, 1) := by decide +kernel
theorem dL_law_595 : decode cL_law 595 = .ok (.invokevirtual 85, 3) := by decide +kernel
theorem dL_law_598 : decode cL_law 598 = .ok (.aload_n 2, 1) := by decide +kernel
theorem dL_law_599 : decode cL_law 599 = .ok (.aload_n 0, 1) := by decide +kernel
theorem dL_law_600 : decode cL_law 600 = .ok (.iload_n 3, 1) := by decide +kernel
theorem dL_law_601 : decode cL_law 601 = .ok (.iconst 1, 1) := by decide +kernel
theorem dL_law_602 : decode cL_law 602 = .ok (.iadd, 1) := by decide +kernel
theorem dL_law_603 : decode cL_law 603 = .ok (.iaload, 1) := by decide +kernel
theorem dL_law_604 : decode cL_law 604 = .ok (.invokevirtual 88, 3) := by decide +kernel
theorem dL_law_607 : decode cL_law 607 = .ok (.if_icmp .eq 217, 3) := by decide +kernel
theorem dL_law_610 : decode cL_law 610 = .ok (.iconst 0, 1) := by decide +kernel
theorem dL_law_611 : decode cL_law 611 = .ok (.ireturn, 1) := by decide +kernel
theorem dL_law_612 : decode cL_law 612 = .ok (.aload_n 1, 1) := by decide +kernel
theorem dL_law_613 : decode cL_law 613 = .ok (.aload_n 0, 1) := by decide +kernel
theorem dL_law_614 : decode cL_law 614 = .ok (.iload_n 3, 1) := by decide +kernel
theorem dL_law_615 : decode cL_law 615 = .ok (.iconst 1, 1) := by decide +kernel
theorem dL_law_616 : decode cL_law 616 = .ok (.iadd, 1) := by decide +kernel
theorem dL_law_617 : decode cL_law 617 = .ok (.iaload, 1) := by decide +kernel
theorem dL_law_618 : decode cL_law 618 = .ok (.aload_n 0, 1) := by decide +kernel
theorem dL_law_619 : decode cL_law 619 = .ok (.iload_n 3, 1) := by decide +kernel
theorem dL_law_620 : decode cL_law 620 = .ok (.iconst 2, 1) := by decide +kernel
theorem dL_law_621 : decode cL_law 621 = .ok (.iadd, 1) := by decide +kernel
theorem dL_law_622 : decode cL_law 622 = .ok (.iaload, 1) := by decide +kernel
theorem dL_law_623 : decode cL_law 623 = .ok (.aload_n 0, 1) := by decide +kernel
theorem dL_law_624 : decode cL_law 624 = .ok (.iload_n 3, 1) := by decide +kernel
theorem dL_law_625 : decode cL_law 625 = .ok (.iconst 3, 1) := by decide +kernel
theorem dL_law_626 : decode cL_law 626 = .ok (.iadd, 1) := by decide +kernel
theorem dL_law_627 : decode cL_law 627 = .ok (.iaload, 1) := by decide +kernel
theorem dL_law_628 : decode cL_law 628 = .ok (.invokevirtual 89, 3) := by decide +kernel
theorem dL_law_631 : decode cL_law 631 = .ok (.aload_n 2, 1) := by decide +kernel
theorem dL_law_632 : decode cL_law 632 = .ok (.aload_n 0, 1) := by decide +kernel
theorem dL_law_633 : decode cL_law 633 = .ok (.iload_n 3, 1) := by decide +kernel
theorem dL_law_634 : decode cL_law 634 = .ok (.iconst 1, 1) := by decide +kernel
theorem dL_law_635 : decode cL_law 635 = .ok (.iadd, 1) := by decide +kernel
theorem dL_law_636 : decode cL_law 636 = .ok (.iaload, 1) := by decide +kernel
theorem dL_law_637 : decode cL_law 637 = .ok (.aload_n 0, 1) := by decide +kernel
theorem dL_law_638 : decode cL_law 638 = .ok (.iload_n 3, 1) := by decide +kernel
theorem dL_law_639 : decode cL_law 639 = .ok (.iconst 2, 1) := by decide +kernel
theorem dL_law_640 : decode cL_law 640 = .ok (.iadd, 1) := by decide +kernel
theorem dL_law_641 : decode cL_law 641 = .ok (.iaload, 1) := by decide +kernel
theorem dL_law_642 : decode cL_law 642 = .ok (.aload_n 0, 1) := by decide +kernel
theorem dL_law_643 : decode cL_law 643 = .ok (.iload_n 3, 1) := by decide +kernel
theorem dL_law_644 : decode cL_law 644 = .ok (.iconst 3, 1) := by decide +kernel
theorem dL_law_645 : decode cL_law 645 = .ok (.iadd, 1) := by decide +kernel
theorem dL_law_646 : decode cL_law 646 = .ok (.iaload, 1) := by decide +kernel
theorem dL_law_647 : decode cL_law 647 = .ok (.invokevirtual 92, 3) := by decide +kernel
theorem dL_law_650 : decode cL_law 650 = .ok (.if_icmp .eq 174, 3) := by decide +kernel
theorem dL_law_653 : decode cL_law 653 = .ok (.iconst 0, 1) := by decide +kernel
theorem dL_law_654 : decode cL_law 654 = .ok (.ireturn, 1) := by decide +kernel
theorem dL_law_655 : decode cL_law 655 = .ok (.aload_n 1, 1) := by decide +kernel
theorem dL_law_656 : decode cL_law 656 = .ok (.aload_n 0, 1) := by decide +kernel
theorem dL_law_657 : decode cL_law 657 = .ok (.iload_n 3, 1) := by decide +kernel
theorem dL_law_658 : decode cL_law 658 = .ok (.iconst 1, 1) := by decide +kernel
theorem dL_law_659 : decode cL_law 659 = .ok (.iadd, 1) := by decide +kernel
theorem dL_law_660 : decode cL_law 660 = .ok (.iaload, 1) := by decide +kernel
theorem dL_law_661 : decode cL_law 661 = .ok (.aload_n 0, 1) := by decide +kernel
theorem dL_law_662 : decode cL_law 662 = .ok (.iload_n 3, 1) := by decide +kernel
theorem dL_law_663 : decode cL_law 663 = .ok (.iconst 2, 1) := by decide +kernel
theorem dL_law_664 : decode cL_law 664 = .ok (.iadd, 1) := by decide +kernel
theorem dL_law_665 : decode cL_law 665 = .ok (.iaload, 1) := by decide +kernel
theorem dL_law_666 : decode cL_law 666 = .ok (.aload_n 0, 1) := by decide +kernel
theorem dL_law_667 : decode cL_law 667 = .ok (.iload_n 3, 1) := by decide +kernel
theorem dL_law_668 : decode cL_law 668 = .ok (.iconst 3, 1) := by decide +kernel
theorem dL_law_669 : decode cL_law 669 = .ok (.iadd, 1) := by decide +kernel
theorem dL_law_670 : decode cL_law 670 = .ok (.iaload, 1) := by decide +kernel
theorem dL_law_671 : decode cL_law 671 = .ok (.aload_n 0, 1) := by decide +kernel
theorem dL_law_672 : decode cL_law 672 = .ok (.iload_n 3, 1) := by decide +kernel
theorem dL_law_673 : decode cL_law 673 = .ok (.iconst 4, 1) := by decide +kernel
theorem dL_law_674 : decode cL_law 674 = .ok (.iadd, 1) := by decide +kernel
theorem dL_law_675 : decode cL_law 675 = .ok (.iaload, 1) := by decide +kernel
theorem dL_law_676 : decode cL_law 676 = .ok (.invokevirtual 93, 3) := by decide +kernel
theorem dL_law_679 : decode cL_law 679 = .ok (.aload_n 2, 1) := by decide +kernel
theorem dL_law_680 : decode cL_law 680 = .ok (.aload_n 0, 1) := by decide +kernel
theorem dL_law_681 : decode cL_law 681 = .ok (.iload_n 3, 1) := by decide +kernel
theorem dL_law_682 : decode cL_law 682 = .ok (.iconst 1, 1) := by decide +kernel
theorem dL_law_683 : decode cL_law 683 = .ok (.iadd, 1) := by decide +kernel
theorem dL_law_684 : decode cL_law 684 = .ok (.iaload, 1) := by decide +kernel
theorem dL_law_685 : decode cL_law 685 = .ok (.aload_n 0, 1) := by decide +kernel
theorem dL_law_686 : decode cL_law 686 = .ok (.iload_n 3, 1) := by decide +kernel
theorem dL_law_687 : decode cL_law 687 = .ok (.iconst 2, 1) := by decide +kernel
theorem dL_law_688 : decode cL_law 688 = .ok (.iadd, 1) := by decide +kernel
theorem dL_law_689 : decode cL_law 689 = .ok (.iaload, 1) := by decide +kernel
theorem dL_law_690 : decode cL_law 690 = .ok (.aload_n 0, 1) := by decide +kernel
theorem dL_law_691 : decode cL_law 691 = .ok (.iload_n 3, 1) := by decide +kernel
theorem dL_law_692 : decode cL_law 692 = .ok (.iconst 3, 1) := by decide +kernel
theorem dL_law_693 : decode cL_law 693 = .ok (.iadd, 1) := by decide +kernel
theorem dL_law_694 : decode cL_law 694 = .ok (.iaload, 1) := by decide +kernel
theorem dL_law_695 : decode cL_law 695 = .ok (.aload_n 0, 1) := by decide +kernel
theorem dL_law_696 : decode cL_law 696 = .ok (.iload_n 3, 1) := by decide +kernel
theorem dL_law_697 : decode cL_law 697 = .ok (.iconst 4, 1) := by decide +kernel
theorem dL_law_698 : decode cL_law 698 = .ok (.iadd, 1) := by decide +kernel
theorem dL_law_699 : decode cL_law 699 = .ok (.iaload, 1) := by decide +kernel
theorem dL_law_700 : decode cL_law 700 = .ok (.invokevirtual 97, 3) := by decide +kernel
theorem dL_law_703 : decode cL_law 703 = .ok (.if_icmp .eq 121, 3) := by decide +kernel
theorem dL_law_706 : decode cL_law 706 = .ok (.iconst 0, 1) := by decide +kernel
theorem dL_law_707 : decode cL_law 707 = .ok (.ireturn, 1) := by decide +kernel
theorem dL_law_708 : decode cL_law 708 = .ok (.aload_n 1, 1) := by decide +kernel
theorem dL_law_709 : decode cL_law 709 = .ok (.aload_n 0, 1) := by decide +kernel
theorem dL_law_710 : decode cL_law 710 = .ok (.iload_n 3, 1) := by decide +kernel
theorem dL_law_711 : decode cL_law 711 = .ok (.iconst 1, 1) := by decide +kernel
theorem dL_law_712 : decode cL_law 712 = .ok (.iadd, 1) := by decide +kernel
theorem dL_law_713 : decode cL_law 713 = .ok (.iaload, 1) := by decide +kernel
theorem dL_law_714 : decode cL_law 714 = .ok (.aload_n 0, 1) := by decide +kernel
theorem dL_law_715 : decode cL_law 715 = .ok (.iload_n 3, 1) := by decide +kernel
theorem dL_law_716 : decode cL_law 716 = .ok (.iconst 2, 1) := by decide +kernel
theorem dL_law_717 : decode cL_law 717 = .ok (.iadd, 1) := by decide +kernel
theorem dL_law_718 : decode cL_law 718 = .ok (.iaload, 1) := by decide +kernel
theorem dL_law_719 : decode cL_law 719 = .ok (.invokevirtual 98, 3) := by decide +kernel
theorem dL_law_722 : decode cL_law 722 = .ok (.aload_n 2, 1) := by decide +kernel
theorem dL_law_723 : decode cL_law 723 = .ok (.aload_n 0, 1) := by decide +kernel
theorem dL_law_724 : decode cL_law 724 = .ok (.iload_n 3, 1) := by decide +kernel
theorem dL_law_725 : decode cL_law 725 = .ok (.iconst 1, 1) := by decide +kernel
theorem dL_law_726 : decode cL_law 726 = .ok (.iadd, 1) := by decide +kernel
theorem dL_law_727 : decode cL_law 727 = .ok (.iaload, 1) := by decide +kernel
theorem dL_law_728 : decode cL_law 728 = .ok (.aload_n 0, 1) := by decide +kernel
theorem dL_law_729 : decode cL_law 729 = .ok (.iload_n 3, 1) := by decide +kernel
theorem dL_law_730 : decode cL_law 730 = .ok (.iconst 2, 1) := by decide +kernel
theorem dL_law_731 : decode cL_law 731 = .ok (.iadd, 1) := by decide +kernel
theorem dL_law_732 : decode cL_law 732 = .ok (.iaload, 1) := by decide +kernel
theorem dL_law_733 : decode cL_law 733 = .ok (.invokevirtual 101, 3) := by decide +kernel
theorem dL_law_736 : decode cL_law 736 = .ok (.if_icmp .eq 88, 3) := by decide +kernel
theorem dL_law_739 : decode cL_law 739 = .ok (.iconst 0, 1) := by decide +kernel
theorem dL_law_740 : decode cL_law 740 = .ok (.ireturn, 1) := by decide +kernel
theorem dL_law_741 : decode cL_law 741 = .ok (.aload_n 1, 1) := by decide +kernel
theorem dL_law_742 : decode cL_law 742 = .ok (.aload_n 0, 1) := by decide +kernel
theorem dL_law_743 : decode cL_law 743 = .ok (.iload_n 3, 1) := by decide +kernel
theorem dL_law_744 : decode cL_law 744 = .ok (.iconst 1, 1) := by decide +kernel
theorem dL_law_745 : decode cL_law 745 = .ok (.iadd, 1) := by decide +kernel
theorem dL_law_746 : decode cL_law 746 = .ok (.iaload, 1) := by decide +kernel
theorem dL_law_747 : decode cL_law 747 = .ok (.invokevirtual 102, 3) := by decide +kernel
theorem dL_law_750 : decode cL_law 750 = .ok (.aload_n 2, 1) := by decide +kernel
theorem dL_law_751 : decode cL_law 751 = .ok (.aload_n 0, 1) := by decide +kernel
theorem dL_law_752 : decode cL_law 752 = .ok (.iload_n 3, 1) := by decide +kernel
theorem dL_law_753 : decode cL_law 753 = .ok (.iconst 1, 1) := by decide +kernel
theorem dL_law_754 : decode cL_law 754 = .ok (.iadd, 1) := by decide +kernel
theorem dL_law_755 : decode cL_law 755 = .ok (.iaload, 1) := by decide +kernel
theorem dL_law_756 : decode cL_law 756 = .ok (.invokevirtual 105, 3) := by decide +kernel
theorem dL_law_759 : decode cL_law 759 = .ok (.if_icmp .eq 65, 3) := by decide +kernel
theorem dL_law_762 : decode cL_law 762 = .ok (.iconst 0, 1) := by decide +kernel
theorem dL_law_763 : decode cL_law 763 = .ok (.ireturn, 1) := by decide +kernel
theorem dL_law_764 : decode cL_law 764 = .ok (.aload_n 1, 1) := by decide +kernel
theorem dL_law_765 : decode cL_law 765 = .ok (.aload_n 0, 1) := by decide +kernel
theorem dL_law_766 : decode cL_law 766 = .ok (.iload_n 3, 1) := by decide +kernel
theorem dL_law_767 : decode cL_law 767 = .ok (.iconst 1, 1) := by decide +kernel
theorem dL_law_768 : decode cL_law 768 = .ok (.iadd, 1) := by decide +kernel
theorem dL_law_769 : decode cL_law 769 = .ok (.iaload, 1) := by decide +kernel
theorem dL_law_770 : decode cL_law 770 = .ok (.invokevirtual 106, 3) := by decide +kernel
theorem dL_law_773 : decode cL_law 773 = .ok (.aload_n 2, 1) := by decide +kernel
theorem dL_law_774 : decode cL_law 774 = .ok (.aload_n 0, 1) := by decide +kernel
theorem dL_law_775 : decode cL_law 775 = .ok (.iload_n 3, 1) := by decide +kernel
theorem dL_law_776 : decode cL_law 776 = .ok (.iconst 1, 1) := by decide +kernel
theorem dL_law_777 : decode cL_law 777 = .ok (.iadd, 1) := by decide +kernel
theorem dL_law_778 : decode cL_law 778 = .ok (.iaload, 1) := by decide +kernel
theorem dL_law_779 : decode cL_law 779 = .ok (.invokevirtual 109, 3) := by decide +kernel
theorem dL_law_782 : decode cL_law 782 = .ok (.if_icmp .eq 42, 3) := by decide +kernel
theorem dL_law_785 : decode cL_law 785 = .ok (.iconst 0, 1) := by decide +kernel
theorem dL_law_786 : decode cL_law 786 = .ok (.ireturn, 1) := by decide +kernel
theorem dL_law_787 : decode cL_law 787 = .ok (.aload_n 1, 1) := by decide +kernel
theorem dL_law_788 : decode cL_law 788 = .ok (.aload_n 0, 1) := by decide +kernel
theorem dL_law_789 : decode cL_law 789 = .ok (.iload_n 3, 1) := by decide +kernel
theorem dL_law_790 : decode cL_law 790 = .ok (.iconst 1, 1) := by decide +kernel
theorem dL_law_791 : decode cL_law 791 = .ok (.iadd, 1) := by decide +kernel
theorem dL_law_792 : decode cL_law 792 = .ok (.iaload, 1) := by decide +kernel
theorem dL_law_793 : decode cL_law 793 = .ok (.invokevirtual 110, 3) := by decide +kernel
theorem dL_law_796 : decode cL_law 796 = .ok (.aload_n 2, 1) := by decide +kernel
theorem dL_law_797 : decode cL_law 797 = .ok (.aload_n 0, 1) := by decide +kernel
theorem dL_law_798 : decode cL_law 798 = .ok (.iload_n 3, 1) := by decide +kernel
theorem dL_law_799 : decode cL_law 799 = .ok (.iconst 1, 1) := by decide +kernel
theorem dL_law_800 : decode cL_law 800 = .ok (.iadd, 1) := by decide +kernel
theorem dL_law_801 : decode cL_law 801 = .ok (.iaload, 1) := by decide +kernel
theorem dL_law_802 : decode cL_law 802 = .ok (.invokevirtual 113, 3) := by decide +kernel
theorem dL_law_805 : decode cL_law 805 = .ok (.if_icmp .eq 19, 3) := by decide +kernel
theorem dL_law_808 : decode cL_law 808 = .ok (.iconst 0, 1) := by decide +kernel
theorem dL_law_809 : decode cL_law 809 = .ok (.ireturn, 1) := by decide +kernel
theorem dL_law_810 : decode cL_law 810 = .ok (.aload_n 1, 1) := by decide +kernel
theorem dL_law_811 : decode cL_law 811 = .ok (.invokevirtual 114, 3) := by decide +kernel
theorem dL_law_814 : decode cL_law 814 = .ok (.aload_n 2, 1) := by decide +kernel
theorem dL_law_815 : decode cL_law 815 = .ok (.invokevirtual 118, 3) := by decide +kernel
theorem dL_law_818 : decode cL_law 818 = .ok (.lcmp, 1) := by decide +kernel
theorem dL_law_819 : decode cL_law 819 = .ok (.ifCond .eq 5, 3) := by decide +kernel
theorem dL_law_822 : decode cL_law 822 = .ok (.iconst 0, 1) := by decide +kernel
theorem dL_law_823 : decode cL_law 823 = .ok (.ireturn, 1) := by decide +kernel
theorem dL_law_824 : decode cL_law 824 = .ok (.iinc 3 5, 3) := by decide +kernel
theorem dL_law_827 : decode cL_law 827 = .ok (.goto (-809), 3) := by decide +kernel
theorem dL_law_830 : decode cL_law 830 = .ok (.iconst 1, 1) := by decide +kernel
theorem dL_law_831 : decode cL_law 831 = .ok (.ireturn, 1) := by decide +kernel
