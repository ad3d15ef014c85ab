theorem dX6_isDigit_16 : decode cX6_isDigit 16 = .ok (.iconst 0, 1) := by decide +kernel
theorem dX6_isDigit_17 : decode cX6_isDigit 17 = .ok (.ireturn, 1) := by decide +kernel
theorem dX6_isWord_0 : decode cX6_isWord 0 = .ok (.iload_n 0, 1) := by decide +kernel
theorem dX6_isWord_1 : decode cX6_isWord 1 = .ok (.bipush 119, 2) := by decide +kernel
theorem dX6_isWord_3 : decode cX6_isWord 3 = .ok (.if_icmp .eq 33, 3) := by decide +kernel
theorem dX6_isWord_6 : decode cX6_isWord 6 = .ok (.iload_n 0, 1) := by decide +kernel
theorem dX6_isWord_7 : decode cX6_isWord 7 = .ok (.bipush 112, 2) := by decide +kernel
theorem dX6_isWord_9 : decode cX6_isWord 9 = .ok (.if_icmp .eq 27, 3) := by decide +kernel
theorem dX6_isWord_12 : decode cX6_isWord 12 = .ok (.iload_n 0, 1) := by decide +kernel
theorem dX6_isWord_13 : decode cX6_isWord 13 = .ok (.bipush 100, 2) := by decide +kernel
theorem dX6_isWord_15 : decode cX6_isWord 15 = .ok (.if_icmp .eq 21, 3) := by decide +kernel
theorem dX6_isWord_18 : decode cX6_isWord 18 = .ok (.iload_n 0, 1) := by decide +kernel
theorem dX6_isWord_19 : decode cX6_isWord 19 = .ok (.bipush 103, 2) := by decide +kernel
theorem dX6_isWord_21 : decode cX6_isWord 21 = .ok (.if_icmp .eq 15, 3) := by decide +kernel
theorem dX6_isWord_24 : decode cX6_isWord 24 = .ok (.iload_n 0, 1) := by decide +kernel
theorem dX6_isWord_25 : decode cX6_isWord 25 = .ok (.bipush 102, 2) := by decide +kernel
theorem dX6_isWord_27 : decode cX6_isWord 27 = .ok (.if_icmp .eq 9, 3) := by decide +kernel
theorem dX6_isWord_30 : decode cX6_isWord 30 = .ok (.iload_n 0, 1) := by decide +kernel
theorem dX6_isWord_31 : decode cX6_isWord 31 = .ok (.bipush 59, 2) := by decide +kernel
theorem dX6_isWord_33 : decode cX6_isWord 33 = .ok (.if_icmp .ne 7, 3) := by decide +kernel
theorem dX6_isWord_36 : decode cX6_isWord 36 = .ok (.iconst 1, 1) := by decide +kernel
theorem dX6_isWord_37 : decode cX6_isWord 37 = .ok (.goto 4, 3) := by decide +kernel
theorem dX6_isWord_40 : decode cX6_isWord 40 = .ok (.iconst 0, 1) := by decide +kernel
theorem dX6_isWord_41 : decode cX6_isWord 41 = .ok (.ireturn, 1) := by decide +kernel
theorem dX7_init_0 : decode cX7_init 0 = .ok (.aload_n 0, 1) := by decide +kernel
theorem dX7_init_1 : decode cX7_init 1 = .ok (.invokespecial 3, 3) := by decide +kernel
theorem dX7_init_4 : decode cX7_init 4 = .ok (.aload_n 0, 1) := by decide +kernel
theorem dX7_init_5 : decode cX7_init 5 = .ok (.sipush 240, 3) := by decide +kernel
theorem dX7_init_8 : decode cX7_init 8 = .ok (.newarray .int, 2) := by decide +kernel
theorem dX7_init_10 : decode cX7_init 10 = .ok (.putfield 9, 3) := by decide +kernel
theorem dX7_init_13 : decode cX7_init 13 = .ok (.return_, 1) := by decide +kernel
theorem dX7_fewest_0 : decode cX7_fewest 0 = .ok (.aload_n 0, 1) := by decide +kernel
theorem dX7_fewest_1 : decode cX7_fewest 1 = .ok (.aload_n 1, 1) := by decide +kernel
theorem dX7_fewest_2 : decode cX7_fewest 2 = .ok (.iload_n 2, 1) := by decide +kernel
theorem dX7_fewest_3 : decode cX7_fewest 3 = .ok (.invokevirtual 15, 3) := by decide +kernel
theorem dX7_fewest_6 : decode cX7_fewest 6 = .ok (.istore_n 3, 1) := by decide +kernel
theorem dX7_fewest_7 : decode cX7_fewest 7 = .ok (.aload_n 0, 1) := by decide +kernel
theorem dX7_fewest_8 : decode cX7_fewest 8 = .ok (.aload_n 1, 1) := by decide +kernel
theorem dX7_fewest_9 : decode cX7_fewest 9 = .ok (.iload_n 2, 1) := by decide +kernel
theorem dX7_fewest_10 : decode cX7_fewest 10 = .ok (.iload_n 3, 1) := by decide +kernel
theorem dX7_fewest_11 : decode cX7_fewest 11 = .ok (.invokevirtual 19, 3) := by decide +kernel
theorem dX7_fewest_14 : decode cX7_fewest 14 = .ok (.iload_n 3, 1) := by decide +kernel
theorem dX7_fewest_15 : decode cX7_fewest 15 = .ok (.istore 4, 2) := by decide +kernel
theorem dX7_fewest_17 : decode cX7_fewest 17 = .ok (.iconst 0, 1) := by decide +kernel
theorem dX7_fewest_18 : decode cX7_fewest 18 = .ok (.istore 5, 2) := by decide +kernel
theorem dX7_fewest_20 : decode cX7_fewest 20 = .ok (.iload 5, 2) := by decide +kernel
theorem dX7_fewest_22 : decode cX7_fewest 22 = .ok (.iload_n 3, 1) := by decide +kernel
theorem dX7_fewest_23 : decode cX7_fewest 23 = .ok (.if_icmp .ge 58, 3) := by decide +kernel
theorem dX7_fewest_26 : decode cX7_fewest 26 = .ok (.iload 5, 2) := by decide +kernel
theorem dX7_fewest_28 : decode cX7_fewest 28 = .ok (.invokestatic 23, 3) := by decide +kernel
theorem dX7_fewest_31 : decode cX7_fewest 31 = .ok (.iload 4, 2) := by decide +kernel
theorem dX7_fewest_33 : decode cX7_fewest 33 = .ok (.invokestatic 23, 3) := by decide +kernel
theorem dX7_fewest_36 : decode cX7_fewest 36 = .ok (.if_icmp .ge 7, 3) := by decide +kernel
theorem dX7_fewest_39 : decode cX7_fewest 39 = .ok (.iconst 1, 1) := by decide +kernel
theorem dX7_fewest_40 : decode cX7_fewest 40 = .ok (.goto 4, 3) := by decide +kernel
theorem dX7_fewest_43 : decode cX7_fewest 43 = .ok (.iconst 0, 1) := by decide +kernel
theorem dX7_fewest_44 : decode cX7_fewest 44 = .ok (.istore 6, 2) := by decide +kernel
theorem dX7_fewest_46 : decode cX7_fewest 46 = .ok (.iload 5, 2) := by decide +kernel
theorem dX7_fewest_48 : decode cX7_fewest 48 = .ok (.iload_n 3, 1) := by decide +kernel
theorem dX7_fewest_49 : decode cX7_fewest 49 = .ok (.iconst (-1), 1) := by decide +kernel
theorem dX7_fewest_50 : decode cX7_fewest 50 = .ok (.ixor, 1) := by decide +kernel
theorem dX7_fewest_51 : decode cX7_fewest 51 = .ok (.iand, 1) := by decide +kernel
theorem dX7_fewest_52 : decode cX7_fewest 52 = .ok (.ifCond .ne 23, 3) := by decide +kernel
theorem dX7_fewest_55 : decode cX7_fewest 55 = .ok (.iload 6, 2) := by decide +kernel
theorem dX7_fewest_57 : decode cX7_fewest 57 = .ok (.ifCond .eq 18, 3) := by decide +kernel
theorem dX7_fewest_60 : decode cX7_fewest 60 = .ok (.aload_n 0, 1) := by decide +kernel
theorem dX7_fewest_61 : decode cX7_fewest 61 = .ok (.aload_n 1, 1) := by decide +kernel
theorem dX7_fewest_62 : decode cX7_fewest 62 = .ok (.iload_n 2, 1) := by decide +kernel
theorem dX7_fewest_63 : decode cX7_fewest 63 = .ok (.iload 5, 2) := by decide +kernel
theorem dX7_fewest_65 : decode cX7_fewest 65 = .ok (.invokevirtual 29, 3) := by decide +kernel
theorem dX7_fewest_68 : decode cX7_fewest 68 = .ok (.ifCond .eq 7, 3) := by decide +kernel
theorem dX7_fewest_71 : decode cX7_fewest 71 = .ok (.iload 5, 2) := by decide +kernel
theorem dX7_fewest_73 : decode cX7_fewest 73 = .ok (.istore 4, 2) := by decide +kernel
theorem dX7_fewest_75 : decode cX7_fewest 75 = .ok (.iinc 5 1, 3) := by decide +kernel
theorem dX7_fewest_78 : decode cX7_fewest 78 = .ok (.goto (-58), 3) := by decide +kernel
theorem dX7_fewest_81 : decode cX7_fewest 81 = .ok (.iload 4, 2) := by decide +kernel
theorem dX7_fewest_83 : decode cX7_fewest 83 = .ok (.ireturn, 1) := by decide +kernel
theorem dX7_dutiesOfSet_0 : decode cX7_dutiesOfSet 0 = .ok (.iconst 0, 1) := by decide +kernel
theorem dX7_dutiesOfSet_1 : decode cX7_dutiesOfSet 1 = .ok (.istore_n 3, 1) := by decide +kernel
theorem dX7_dutiesOfSet_2 : decode cX7_dutiesOfSet 2 = .ok (.iconst 0, 1) := by decide +kernel
theorem dX7_dutiesOfSet_3 : decode cX7_dutiesOfSet 3 = .ok (.istore 4, 2) := by decide +kernel
theorem dX7_dutiesOfSet_5 : decode cX7_dutiesOfSet 5 = .ok (.iload 4, 2) := by decide +kernel
theorem dX7_dutiesOfSet_7 : decode cX7_dutiesOfSet 7 = .ok (.aload_n 1, 1) := by decide +kernel
theorem dX7_dutiesOfSet_8 : decode cX7_dutiesOfSet 8 = .ok (.getfield 33, 3) := by decide +kernel
theorem dX7_dutiesOfSet_11 : decode cX7_dutiesOfSet 11 = .ok (.getfield 39, 3) := by decide +kernel
theorem dX7_dutiesOfSet_14 : decode cX7_dutiesOfSet 14 = .ok (.if_icmp .ge 28, 3) := by decide +kernel
theorem dX7_dutiesOfSet_17 : decode cX7_dutiesOfSet 17 = .ok (.iload_n 2, 1) := by decide +kernel
theorem dX7_dutiesOfSet_18 : decode cX7_dutiesOfSet 18 = .ok (.iload 4, 2) := by decide +kernel
theorem dX7_dutiesOfSet_20 : decode cX7_dutiesOfSet 20 = .ok (.invokestatic 45, 3) := by decide +kernel
theorem dX7_dutiesOfSet_23 : decode cX7_dutiesOfSet 23 = .ok (.iconst 1, 1) := by decide +kernel
theorem dX7_dutiesOfSet_24 : decode cX7_dutiesOfSet 24 = .ok (.if_icmp .ne 12, 3) := by decide +kernel
theorem dX7_dutiesOfSet_27 : decode cX7_dutiesOfSet 27 = .ok (.iload_n 3, 1) := by decide +kernel
theorem dX7_dutiesOfSet_28 : decode cX7_dutiesOfSet 28 = .ok (.aload_n 1, 1) := by decide +kernel
theorem dX7_dutiesOfSet_29 : decode cX7_dutiesOfSet 29 = .ok (.iload 4, 2) := by decide +kernel
theorem dX7_dutiesOfSet_31 : decode cX7_dutiesOfSet 31 = .ok (.invokevirtual 49, 3) := by decide +kernel
theorem dX7_dutiesOfSet_34 : decode cX7_dutiesOfSet 34 = .ok (.ior, 1) := by decide +kernel
theorem dX7_dutiesOfSet_35 : decode cX7_dutiesOfSet 35 = .ok (.istore_n 3, 1) := by decide +kernel
theorem dX7_dutiesOfSet_36 : decode cX7_dutiesOfSet 36 = .ok (.iinc 4 1, 3) := by decide +kernel
theorem dX7_dutiesOfSet_39 : decode cX7_dutiesOfSet 39 = .ok (.goto (-34), 3) := by decide +kernel
theorem dX7_dutiesOfSet_42 : decode cX7_dutiesOfSet 42 = .ok (.iload_n 3, 1) := by decide +kernel
theorem dX7_dutiesOfSet_43 : decode cX7_dutiesOfSet 43 = .ok (.ireturn, 1) := by decide +kernel
theorem dX7_noteMinutes_0 : decode cX7_noteMinutes 0 = .ok (.aload_n 0, 1) := by decide +kernel
theorem dX7_noteMinutes_1 : decode cX7_noteMinutes 1 = .ok (.iconst 0, 1) := by decide +kernel
theorem dX7_noteMinutes_2 : decode cX7_noteMinutes 2 = .ok (.putfield 52, 3) := by decide +kernel
theorem dX7_noteMinutes_5 : decode cX7_noteMinutes 5 = .ok (.aload_n 1, 1) := by decide +kernel
theorem dX7_noteMinutes_6 : decode cX7_noteMinutes 6 = .ok (.getfield 55, 3) := by decide +kernel
theorem dX7_noteMinutes_9 : decode cX7_noteMinutes 9 = .ok (.getfield 59, 3) := by decide +kernel
theorem dX7_noteMinutes_12 : decode cX7_noteMinutes 12 = .ok (.istore 4, 2) := by decide +kernel
theorem dX7_noteMinutes_14 : decode cX7_noteMinutes 14 = .ok (.iload 4, 2) := by decide +kernel
theorem dX7_noteMinutes_16 : decode cX7_noteMinutes 16 = .ok (.sipush 240, 3) := by decide +kernel
theorem dX7_noteMinutes_19 : decode cX7_noteMinutes 19 = .ok (.if_icmp .ge 87, 3) := by decide +kernel
theorem dX7_noteMinutes_22 : decode cX7_noteMinutes 22 = .ok (.aload_n 1, 1) := by decide +kernel
theorem dX7_noteMinutes_23 : decode cX7_noteMinutes 23 = .ok (.iload 4, 2) := by decide +kernel
theorem dX7_noteMinutes_25 : decode cX7_noteMinutes 25 = .ok (.invokevirtual 64, 3) := by decide +kernel
theorem dX7_noteMinutes_28 : decode cX7_noteMinutes 28 = .ok (.iload_n 3, 1) := by decide +kernel
theorem dX7_noteMinutes_29 : decode cX7_noteMinutes 29 = .ok (.iand, 1) := by decide +kernel
theorem dX7_noteMinutes_30 : decode cX7_noteMinutes 30 = .ok (.istore 5, 2) := by decide +kernel
theorem dX7_noteMinutes_32 : decode cX7_noteMinutes 32 = .ok (.aload_n 0, 1) := by decide +kernel
theorem dX7_noteMinutes_33 : decode cX7_noteMinutes 33 = .ok (.getfield 52, 3) := by decide +kernel
theorem dX7_noteMinutes_36 : decode cX7_noteMinutes 36 = .ok (.ifCond .le 23, 3) := by decide +kernel
theorem dX7_noteMinutes_39 : decode cX7_noteMinutes 39 = .ok (.aload_n 0, 1) := by decide +kernel
theorem dX7_noteMinutes_40 : decode cX7_noteMinutes 40 = .ok (.getfield 9, 3) := by decide +kernel
theorem dX7_noteMinutes_43 : decode cX7_noteMinutes 43 = .ok (.aload_n 0, 1) := by decide +kernel
theorem dX7_noteMinutes_44 : decode cX7_noteMinutes 44 = .ok (.getfield 52, 3) := by decide +kernel
theorem dX7_noteMinutes_47 : decode cX7_noteMinutes 47 = .ok (.iconst 1, 1) := by decide +kernel
theorem dX7_noteMinutes_48 : decode cX7_noteMinutes 48 = .ok (.isub, 1) := by decide +kernel
theorem dX7_noteMinutes_49 : decode cX7_noteMinutes 49 = .ok (.iaload, 1) := by decide +kernel
theorem dX7_noteMinutes_50 : decode cX7_noteMinutes 50 = .ok (.iload 5, 2) := by decide +kernel
theorem dX7_noteMinutes_52 : decode cX7_noteMinutes 52 = .ok (.if_icmp .ne 7, 3) := by decide +kernel
theorem dX7_noteMinutes_55 : decode cX7_noteMinutes 55 = .ok (.iconst 1, 1) := by decide +kernel
theorem dX7_noteMinutes_56 : decode cX7_noteMinutes 56 = .ok (.goto 4, 3) := by decide +kernel
theorem dX7_noteMinutes_59 : decode cX7_noteMinutes 59 = .ok (.iconst 0, 1) := by decide +kernel
theorem dX7_noteMinutes_60 : decode cX7_noteMinutes 60 = .ok (.istore 6, 2) := by decide +kernel
theorem dX7_noteMinutes_62 : decode cX7_noteMinutes 62 = .ok (.iload 6, 2) := by decide +kernel
theorem dX7_noteMinutes_64 : decode cX7_noteMinutes 64 = .ok (.ifCond .ne 36, 3) := by decide +kernel
theorem dX7_noteMinutes_67 : decode cX7_noteMinutes 67 = .ok (.aload_n 0, 1) := by decide +kernel
theorem dX7_noteMinutes_68 : decode cX7_noteMinutes 68 = .ok (.aload_n 1, 1) := by decide +kernel
theorem dX7_noteMinutes_69 : decode cX7_noteMinutes 69 = .ok (.iload_n 2, 1) := by decide +kernel
theorem dX7_noteMinutes_70 : decode cX7_noteMinutes 70 = .ok (.iload 5, 2) := by decide +kernel
theorem dX7_noteMinutes_72 : decode cX7_noteMinutes 72 = .ok (.iconst 0, 1) := by decide +kernel
theorem dX7_noteMinutes_73 : decode cX7_noteMinutes 73 = .ok (.invokevirtual 67, 3) := by decide +kernel
theorem dX7_noteMinutes_76 : decode cX7_noteMinutes 76 = .ok (.ifCond .ne 24, 3) := by decide +kernel
theorem dX7_noteMinutes_79 : decode cX7_noteMinutes 79 = .ok (.aload_n 0, 1) := by decide +kernel
theorem dX7_noteMinutes_80 : decode cX7_noteMinutes 80 = .ok (.getfield 9, 3) := by decide +kernel
theorem dX7_noteMinutes_83 : decode cX7_noteMinutes 83 = .ok (.aload_n 0, 1) := by decide +kernel
theorem dX7_noteMinutes_84 : decode cX7_noteMinutes 84 = .ok (.getfield 52, 3) := by decide +kernel
theorem dX7_noteMinutes_87 : decode cX7_noteMinutes 87 = .ok (.iload 5, 2) := by decide +kernel
theorem dX7_noteMinutes_89 : decode cX7_noteMinutes 89 = .ok (.iastore, 1) := by decide +kernel
theorem dX7_noteMinutes_90 : decode cX7_noteMinutes 90 = .ok (.aload_n 0, 1) := by decide +kernel
theorem dX7_noteMinutes_91 : decode cX7_noteMinutes 91 = .ok (.dup, 1) := by decide +kernel
theorem dX7_noteMinutes_92 : decode cX7_noteMinutes 92 = .ok (.getfield 52, 3) := by decide +kernel
theorem dX7_noteMinutes_95 : decode cX7_noteMinutes 95 = .ok (.iconst 1, 1) := by decide +kernel
theorem dX7_noteMinutes_96 : decode cX7_noteMinutes 96 = .ok (.iadd, 1) := by decide +kernel
theorem dX7_noteMinutes_97 : decode cX7_noteMinutes 97 = .ok (.putfield 52, 3) := by decide +kernel
theorem dX7_noteMinutes_100 : decode cX7_noteMinutes 100 = .ok (.iinc 4 1, 3) := by decide +kernel
theorem dX7_noteMinutes_103 : decode cX7_noteMinutes 103 = .ok (.goto (-89), 3) := by decide +kernel
theorem dX7_noteMinutes_106 : decode cX7_noteMinutes 106 = .ok (.return_, 1) := by decide +kernel
theorem dX7_silencesAll_0 : decode cX7_silencesAll 0 = .ok (.iconst 0, 1) := by decide +kernel
theorem dX7_silencesAll_1 : decode cX7_silencesAll 1 = .ok (.istore 4, 2) := by decide +kernel
theorem dX7_silencesAll_3 : decode cX7_silencesAll 3 = .ok (.iload 4, 2) := by decide +kernel
theorem dX7_silencesAll_5 : decode cX7_silencesAll 5 = .ok (.aload_n 0, 1) := by decide +kernel
theorem dX7_silencesAll_6 : decode cX7_silencesAll 6 = .ok (.getfield 52, 3) := by decide +kernel
theorem dX7_silencesAll_9 : decode cX7_silencesAll 9 = .ok (.if_icmp .ge 28, 3) := by decide +kernel
theorem dX7_silencesAll_12 : decode cX7_silencesAll 12 = .ok (.aload_n 0, 1) := by decide +kernel
theorem dX7_silencesAll_13 : decode cX7_silencesAll 13 = .ok (.aload_n 1, 1) := by decide +kernel
theorem dX7_silencesAll_14 : decode cX7_silencesAll 14 = .ok (.iload_n 2, 1) := by decide +kernel
theorem dX7_silencesAll_15 : decode cX7_silencesAll 15 = .ok (.aload_n 0, 1) := by decide +kernel
theorem dX7_silencesAll_16 : decode cX7_silencesAll 16 = .ok (.getfield 9, 3) := by decide +kernel
theorem dX7_silencesAll_19 : decode cX7_silencesAll 19 = .ok (.iload 4, 2) := by decide +kernel
theorem dX7_silencesAll_21 : decode cX7_silencesAll 21 = .ok (.iaload, 1) := by decide +kernel
theorem dX7_silencesAll_22 : decode cX7_silencesAll 22 = .ok (.iload_n 3, 1) := by decide +kernel
theorem dX7_silencesAll_23 : decode cX7_silencesAll 23 = .ok (.invokevirtual 67, 3) := by decide +kernel
theorem dX7_silencesAll_26 : decode cX7_silencesAll 26 = .ok (.ifCond .ne 5, 3) := by decide +kernel
theorem dX7_silencesAll_29 : decode cX7_silencesAll 29 = .ok (.iconst 0, 1) := by decide +kernel
theorem dX7_silencesAll_30 : decode cX7_silencesAll 30 = .ok (.ireturn, 1) := by decide +kernel
theorem dX7_silencesAll_31 : decode cX7_silencesAll 31 = .ok (.iinc 4 1, 3) := by decide +kernel
theorem dX7_silencesAll_34 : decode cX7_silencesAll 34 = .ok (.goto (-31), 3) := by decide +kernel
theorem dX7_silencesAll_37 : decode cX7_silencesAll 37 = .ok (.iconst 1, 1) := by decide +kernel
theorem dX7_silencesAll_38 : decode cX7_silencesAll 38 = .ok (.ireturn, 1) := by decide +kernel
theorem dX7_silences_0 : decode cX7_silences 0 = .ok (.aload_n 1, 1) := by decide +kernel
theorem dX7_silences_1 : decode cX7_silences 1 = .ok (.iload_n 3, 1) := by decide +kernel
theorem dX7_silences_2 : decode cX7_silences 2 = .ok (.iload 4, 2) := by decide +kernel
theorem dX7_silences_4 : decode cX7_silences 4 = .ok (.iconst (-1), 1) := by decide +kernel
theorem dX7_silences_5 : decode cX7_silences 5 = .ok (.ixor, 1) := by decide +kernel
theorem dX7_silences_6 : decode cX7_silences 6 = .ok (.iand, 1) := by decide +kernel
theorem dX7_silences_7 : decode cX7_silences 7 = .ok (.invokevirtual 71, 3) := by decide +kernel
theorem dX7_silences_10 : decode cX7_silences 10 = .ok (.iload_n 2, 1) := by decide +kernel
theorem dX7_silences_11 : decode cX7_silences 11 = .ok (.iand, 1) := by decide +kernel
theorem dX7_silences_12 : decode cX7_silences 12 = .ok (.iload_n 2, 1) := by decide +kernel
theorem dX7_silences_13 : decode cX7_silences 13 = .ok (.if_icmp .eq 7, 3) := by decide +kernel
theorem dX7_silences_16 : decode cX7_silences 16 = .ok (.iconst 1, 1) := by decide +kernel
theorem dX7_silences_17 : decode cX7_silences 17 = .ok (.goto 4, 3) := by decide +kernel
theorem dX7_silences_20 : decode cX7_silences 20 = .ok (.iconst 0, 1) := by decide +kernel
theorem dX7_silences_21 : decode cX7_silences 21 = .ok (.ireturn, 1) := by decide +kernel
theorem dX8_init_0 : decode cX8_init 0 = .ok (.aload_n 0, 1) := by decide +kernel
theorem dX8_init_1 : decode cX8_init 1 = .ok (.invokespecial 3, 3) := by decide +kernel
theorem dX8_init_4 : decode cX8_init 4 = .ok (.aload_n 0, 1) := by decide +kernel
theorem dX8_init_5 : decode cX8_init 5 = .ok (.sipush 240, 3) := by decide +kernel
theorem dX8_init_8 : decode cX8_init 8 = .ok (.newarray .int, 2) := by decide +kernel
theorem dX8_init_10 : decode cX8_init 10 = .ok (.putfield 9, 3) := by decide +kernel
theorem dX8_init_13 : decode cX8_init 13 = .ok (.aload_n 0, 1) := by decide +kernel
theorem dX8_init_14 : decode cX8_init 14 = .ok (.sipush 241, 3) := by decide +kernel
theorem dX8_init_17 : decode cX8_init 17 = .ok (.newarray .int, 2) := by decide +kernel
theorem dX8_init_19 : decode cX8_init 19 = .ok (.putfield 15, 3) := by decide +kernel
theorem dX8_init_22 : decode cX8_init 22 = .ok (.aload_n 0, 1) := by decide +kernel
theorem dX8_init_23 : decode cX8_init 23 = .ok (.sipush 1446, 3) := by decide +kernel
theorem dX8_init_26 : decode cX8_init 26 = .ok (.newarray .int, 2) := by decide +kernel
theorem dX8_init_28 : decode cX8_init 28 = .ok (.putfield 18, 3) := by decide +kernel
theorem dX8_init_31 : decode cX8_init 31 = .ok (.return_, 1) := by decide +kernel
theorem dX8_weigh_0 : decode cX8_weigh 0 = .ok (.sipush 239, 3) := by decide +kernel
theorem dX8_weigh_3 : decode cX8_weigh 3 = .ok (.istore_n 3, 1) := by decide +kernel
theorem dX8_weigh_4 : decode cX8_weigh 4 = .ok (.iload_n 3, 1) := by decide +kernel
theorem dX8_weigh_5 : decode cX8_weigh 5 = .ok (.aload_n 1, 1) := by decide +kernel
theorem dX8_weigh_6 : decode cX8_weigh 6 = .ok (.getfield 21, 3) := by decide +kernel
theorem dX8_weigh_9 : decode cX8_weigh 9 = .ok (.getfield 27, 3) := by decide +kernel
theorem dX8_weigh_12 : decode cX8_weigh 12 = .ok (.if_icmp .lt 94, 3) := by decide +kernel
theorem dX8_weigh_15 : decode cX8_weigh 15 = .ok (.aload_n 0, 1) := by decide +kernel
theorem dX8_weigh_16 : decode cX8_weigh 16 = .ok (.getfield 9, 3) := by decide +kernel
theorem dX8_weigh_19 : decode cX8_weigh 19 = .ok (.iload_n 3, 1) := by decide +kernel
theorem dX8_weigh_20 : decode cX8_weigh 20 = .ok (.aload_n 1, 1) := by decide +kernel
theorem dX8_weigh_21 : decode cX8_weigh 21 = .ok (.iload_n 2, 1) := by decide +kernel
theorem dX8_weigh_22 : decode cX8_weigh 22 = .ok (.iload_n 3, 1) := by decide +kernel
theorem dX8_weigh_23 : decode cX8_weigh 23 = .ok (.invokevirtual 33, 3) := by decide +kernel
theorem dX8_weigh_26 : decode cX8_weigh 26 = .ok (.iastore, 1) := by decide +kernel
theorem dX8_weigh_27 : decode cX8_weigh 27 = .ok (.aload_n 0, 1) := by decide +kernel
theorem dX8_weigh_28 : decode cX8_weigh 28 = .ok (.getfield 15, 3) := by decide +kernel
theorem dX8_weigh_31 : decode cX8_weigh 31 = .ok (.iload_n 3, 1) := by decide +kernel
theorem dX8_weigh_32 : decode cX8_weigh 32 = .ok (.aload_n 0, 1) := by decide +kernel
theorem dX8_weigh_33 : decode cX8_weigh 33 = .ok (.getfield 15, 3) := by decide +kernel
theorem dX8_weigh_36 : decode cX8_weigh 36 = .ok (.iload_n 3, 1) := by decide +kernel
theorem dX8_weigh_37 : decode cX8_weigh 37 = .ok (.iconst 1, 1) := by decide +kernel
theorem dX8_weigh_38 : decode cX8_weigh 38 = .ok (.iadd, 1) := by decide +kernel
theorem dX8_weigh_39 : decode cX8_weigh 39 = .ok (.iaload, 1) := by decide +kernel
theorem dX8_weigh_40 : decode cX8_weigh 40 = .ok (.aload_n 0, 1) := by decide +kernel
theorem dX8_weigh_41 : decode cX8_weigh 41 = .ok (.getfield 9, 3) := by decide +kernel
theorem dX8_weigh_44 : decode cX8_weigh 44 = .ok (.iload_n 3, 1) := by decide +kernel
theorem dX8_weigh_45 : decode cX8_weigh 45 = .ok (.iaload, 1) := by decide +kernel
theorem dX8_weigh_46 : decode cX8_weigh 46 = .ok (.ifCond .eq 7, 3) := by decide +kernel
theorem dX8_weigh_49 : decode cX8_weigh 49 = .ok (.iconst 1, 1) := by decide +kernel
theorem dX8_weigh_50 : decode cX8_weigh 50 = .ok (.goto 4, 3) := by decide +kernel
theorem dX8_weigh_53 : decode cX8_weigh 53 = .ok (.iconst 0, 1) := by decide +kernel
theorem dX8_weigh_54 : decode cX8_weigh 54 = .ok (.iadd, 1) := by decide +kernel
theorem dX8_weigh_55 : decode cX8_weigh 55 = .ok (.iastore, 1) := by decide +kernel
theorem dX8_weigh_56 : decode cX8_weigh 56 = .ok (.iconst 0, 1) := by decide +kernel
theorem dX8_weigh_57 : decode cX8_weigh 57 = .ok (.istore 4, 2) := by decide +kernel
theorem dX8_weigh_59 : decode cX8_weigh 59 = .ok (.iload 4, 2) := by decide +kernel
theorem dX8_weigh_61 : decode cX8_weigh 61 = .ok (.aload_n 1, 1) := by decide +kernel
theorem dX8_weigh_62 : decode cX8_weigh 62 = .ok (.getfield 37, 3) := by decide +kernel
theorem dX8_weigh_65 : decode cX8_weigh 65 = .ok (.getfield 41, 3) := by decide +kernel
theorem dX8_weigh_68 : decode cX8_weigh 68 = .ok (.if_icmp .ge 32, 3) := by decide +kernel
theorem dX8_weigh_71 : decode cX8_weigh 71 = .ok (.aload_n 0, 1) := by decide +kernel
theorem dX8_weigh_72 : decode cX8_weigh 72 = .ok (.getfield 18, 3) := by decide +kernel
theorem dX8_weigh_75 : decode cX8_weigh 75 = .ok (.iload_n 3, 1) := by decide +kernel
theorem dX8_weigh_76 : decode cX8_weigh 76 = .ok (.bipush 6, 2) := by decide +kernel
theorem dX8_weigh_78 : decode cX8_weigh 78 = .ok (.imul, 1) := by decide +kernel
theorem dX8_weigh_79 : decode cX8_weigh 79 = .ok (.iload 4, 2) := by decide +kernel
theorem dX8_weigh_81 : decode cX8_weigh 81 = .ok (.iadd, 1) := by decide +kernel
theorem dX8_weigh_82 : decode cX8_weigh 82 = .ok (.aload_n 0, 1) := by decide +kernel
theorem dX8_weigh_83 : decode cX8_weigh 83 = .ok (.aload_n 1, 1) := by decide +kernel
theorem dX8_weigh_84 : decode cX8_weigh 84 = .ok (.getfield 37, 3) := by decide +kernel
theorem dX8_weigh_87 : decode cX8_weigh 87 = .ok (.iload_n 3, 1) := by decide +kernel
theorem dX8_weigh_88 : decode cX8_weigh 88 = .ok (.iload 4, 2) := by decide +kernel
theorem dX8_weigh_90 : decode cX8_weigh 90 = .ok (.invokevirtual 46, 3) := by decide +kernel
theorem dX8_weigh_93 : decode cX8_weigh 93 = .ok (.iastore, 1) := by decide +kernel
theorem dX8_weigh_94 : decode cX8_weigh 94 = .ok (.iinc 4 1, 3) := by decide +kernel
theorem dX8_weigh_97 : decode cX8_weigh 97 = .ok (.goto (-38), 3) := by decide +kernel
theorem dX8_weigh_100 : decode cX8_weigh 100 = .ok (.iinc 3 (-1), 3) := by decide +kernel
theorem dX8_weigh_103 : decode cX8_weigh 103 = .ok (.goto (-99), 3) := by decide +kernel
theorem dX8_weigh_106 : decode cX8_weigh 106 = .ok (.return_, 1) := by decide +kernel
theorem dX8_fewestFrom_0 : decode cX8_fewestFrom 0 = .ok (.aload_n 0, 1) := by decide +kernel
theorem dX8_fewestFrom_1 : decode cX8_fewestFrom 1 = .ok (.aload_n 1, 1) := by decide +kernel
theorem dX8_fewestFrom_2 : decode cX8_fewestFrom 2 = .ok (.iload_n 2, 1) := by decide +kernel
theorem dX8_fewestFrom_3 : decode cX8_fewestFrom 3 = .ok (.iload_n 3, 1) := by decide +kernel
theorem dX8_fewestFrom_4 : decode cX8_fewestFrom 4 = .ok (.iload_n 3, 1) := by decide +kernel
theorem dX8_fewestFrom_5 : decode cX8_fewestFrom 5 = .ok (.invokevirtual 50, 3) := by decide +kernel
theorem dX8_fewestFrom_8 : decode cX8_fewestFrom 8 = .ok (.istore 4, 2) := by decide +kernel
theorem dX8_fewestFrom_10 : decode cX8_fewestFrom 10 = .ok (.iload_n 3, 1) := by decide +kernel
theorem dX8_fewestFrom_11 : decode cX8_fewestFrom 11 = .ok (.ifCond .le 20, 3) := by decide +kernel
theorem dX8_fewestFrom_14 : decode cX8_fewestFrom 14 = .ok (.iload 4, 2) := by decide +kernel
theorem dX8_fewestFrom_16 : decode cX8_fewestFrom 16 = .ok (.aload_n 0, 1) := by decide +kernel
theorem dX8_fewestFrom_17 : decode cX8_fewestFrom 17 = .ok (.aload_n 1, 1) := by decide +kernel
theorem dX8_fewestFrom_18 : decode cX8_fewestFrom 18 = .ok (.iload_n 2, 1) := by decide +kernel
theorem dX8_fewestFrom_19 : decode cX8_fewestFrom 19 = .ok (.iload_n 3, 1) := by decide +kernel
theorem dX8_fewestFrom_20 : decode cX8_fewestFrom 20 = .ok (.iload_n 3, 1) := by decide +kernel
theorem dX8_fewestFrom_21 : decode cX8_fewestFrom 21 = .ok (.iconst 1, 1) := by decide +kernel
theorem dX8_fewestFrom_22 : decode cX8_fewestFrom 22 = .ok (.isub, 1) := by decide +kernel
theorem dX8_fewestFrom_23 : decode cX8_fewestFrom 23 = .ok (.invokevirtual 50, 3) := by decide +kernel
theorem dX8_fewestFrom_26 : decode cX8_fewestFrom 26 = .ok (.invokestatic 54, 3) := by decide +kernel
theorem dX8_fewestFrom_29 : decode cX8_fewestFrom 29 = .ok (.istore 4, 2) := by decide +kernel
theorem dX8_fewestFrom_31 : decode cX8_fewestFrom 31 = .ok (.iload_n 3, 1) := by decide +kernel
theorem dX8_fewestFrom_32 : decode cX8_fewestFrom 32 = .ok (.iconst 1, 1) := by decide +kernel
theorem dX8_fewestFrom_33 : decode cX8_fewestFrom 33 = .ok (.iadd, 1) := by decide +kernel
theorem dX8_fewestFrom_34 : decode cX8_fewestFrom 34 = .ok (.aload_n 1, 1) := by decide +kernel
theorem dX8_fewestFrom_35 : decode cX8_fewestFrom 35 = .ok (.getfield 41, 3) := by decide +kernel
theorem dX8_fewestFrom_38 : decode cX8_fewestFrom 38 = .ok (.if_icmp .ge 20, 3) := by decide +kernel
theorem dX8_fewestFrom_41 : decode cX8_fewestFrom 41 = .ok (.iload 4, 2) := by decide +kernel
theorem dX8_fewestFrom_43 : decode cX8_fewestFrom 43 = .ok (.aload_n 0, 1) := by decide +kernel
theorem dX8_fewestFrom_44 : decode cX8_fewestFrom 44 = .ok (.aload_n 1, 1) := by decide +kernel
theorem dX8_fewestFrom_45 : decode cX8_fewestFrom 45 = .ok (.iload_n 2, 1) := by decide +kernel
theorem dX8_fewestFrom_46 : decode cX8_fewestFrom 46 = .ok (.iload_n 3, 1) := by decide +kernel
theorem dX8_fewestFrom_47 : decode cX8_fewestFrom 47 = .ok (.iload_n 3, 1) := by decide +kernel
theorem dX8_fewestFrom_48 : decode cX8_fewestFrom 48 = .ok (.iconst 1, 1) := by decide +kernel
theorem dX8_fewestFrom_49 : decode cX8_fewestFrom 49 = .ok (.iadd, 1) := by decide +kernel
theorem dX8_fewestFrom_50 : decode cX8_fewestFrom 50 = .ok (.invokevirtual 50, 3) := by decide +kernel
theorem dX8_fewestFrom_53 : decode cX8_fewestFrom 53 = .ok (.invokestatic 54, 3) := by decide +kernel
theorem dX8_fewestFrom_56 : decode cX8_fewestFrom 56 = .ok (.istore 4, 2) := by decide +kernel
theorem dX8_fewestFrom_58 : decode cX8_fewestFrom 58 = .ok (.iload 4, 2) := by decide +kernel
theorem dX8_fewestFrom_60 : decode cX8_fewestFrom 60 = .ok (.ireturn, 1) := by decide +kernel
theorem dX8_tolls_0 : decode cX8_tolls 0 = .ok (.iload_n 3, 1) := by decide +kernel
theorem dX8_tolls_1 : decode cX8_tolls 1 = .ok (.iload 4, 2) := by decide +kernel
theorem dX8_tolls_3 : decode cX8_tolls 3 = .ok (.if_icmp .ne 42, 3) := by decide +kernel
theorem dX8_tolls_6 : decode cX8_tolls 6 = .ok (.aload_n 0, 1) := by decide +kernel
theorem dX8_tolls_7 : decode cX8_tolls 7 = .ok (.getfield 9, 3) := by decide +kernel
theorem dX8_tolls_10 : decode cX8_tolls 10 = .ok (.iload_n 2, 1) := by decide +kernel
theorem dX8_tolls_11 : decode cX8_tolls 11 = .ok (.iaload, 1) := by decide +kernel
theorem dX8_tolls_12 : decode cX8_tolls 12 = .ok (.iconst 1, 1) := by decide +kernel
theorem dX8_tolls_13 : decode cX8_tolls 13 = .ok (.iload_n 3, 1) := by decide +kernel
theorem dX8_tolls_14 : decode cX8_tolls 14 = .ok (.ishl, 1) := by decide +kernel
theorem dX8_tolls_15 : decode cX8_tolls 15 = .ok (.iconst (-1), 1) := by decide +kernel
theorem dX8_tolls_16 : decode cX8_tolls 16 = .ok (.ixor, 1) := by decide +kernel
theorem dX8_tolls_17 : decode cX8_tolls 17 = .ok (.iand, 1) := by decide +kernel
theorem dX8_tolls_18 : decode cX8_tolls 18 = .ok (.ifCond .eq 7, 3) := by decide +kernel
theorem dX8_tolls_21 : decode cX8_tolls 21 = .ok (.iconst 1, 1) := by decide +kernel
theorem dX8_tolls_22 : decode cX8_tolls 22 = .ok (.goto 4, 3) := by decide +kernel
theorem dX8_tolls_25 : decode cX8_tolls 25 = .ok (.iconst 0, 1) := by decide +kernel
theorem dX8_tolls_26 : decode cX8_tolls 26 = .ok (.istore 5, 2) := by decide +kernel
theorem dX8_tolls_28 : decode cX8_tolls 28 = .ok (.iload 5, 2) := by decide +kernel
theorem dX8_tolls_30 : decode cX8_tolls 30 = .ok (.aload_n 0, 1) := by decide +kernel
theorem dX8_tolls_31 : decode cX8_tolls 31 = .ok (.getfield 18, 3) := by decide +kernel
theorem dX8_tolls_34 : decode cX8_tolls 34 = .ok (.iload_n 2, 1) := by decide +kernel
theorem dX8_tolls_35 : decode cX8_tolls 35 = .ok (.iconst 1, 1) := by decide +kernel
theorem dX8_tolls_36 : decode cX8_tolls 36 = .ok (.iadd, 1) := by decide +kernel
theorem dX8_tolls_37 : decode cX8_tolls 37 = .ok (.bipush 6, 2) := by decide +kernel
theorem dX8_tolls_39 : decode cX8_tolls 39 = .ok (.imul, 1) := by decide +kernel
theorem dX8_tolls_40 : decode cX8_tolls 40 = .ok (.iload_n 3, 1) := by decide +kernel
theorem dX8_tolls_41 : decode cX8_tolls 41 = .ok (.iadd, 1) := by decide +kernel
theorem dX8_tolls_42 : decode cX8_tolls 42 = .ok (.iaload, 1) := by decide +kernel
theorem dX8_tolls_43 : decode cX8_tolls 43 = .ok (.iadd, 1) := by decide +kernel
theorem dX8_tolls_44 : decode cX8_tolls 44 = .ok (.ireturn, 1) := by decide +kernel
theorem dX8_tolls_45 : decode cX8_tolls 45 = .ok (.aload_n 0, 1) := by decide +kernel
theorem dX8_tolls_46 : decode cX8_tolls 46 = .ok (.iload_n 2, 1) := by decide +kernel
theorem dX8_tolls_47 : decode cX8_tolls 47 = .ok (.aload_n 1, 1) := by decide +kernel
theorem dX8_tolls_48 : decode cX8_tolls 48 = .ok (.iload_n 3, 1) := by decide +kernel
theorem dX8_tolls_49 : decode cX8_tolls 49 = .ok (.iload 4, 2) := by decide +kernel
theorem dX8_tolls_51 : decode cX8_tolls 51 = .ok (.invokevirtual 59, 3) := by decide +kernel
theorem dX8_tolls_54 : decode cX8_tolls 54 = .ok (.iload 4, 2) := by decide +kernel
theorem dX8_tolls_56 : decode cX8_tolls 56 = .ok (.invokevirtual 62, 3) := by decide +kernel
theorem dX8_tolls_59 : decode cX8_tolls 59 = .ok (.ireturn, 1) := by decide +kernel
theorem dX8_tollsArriving_0 : decode cX8_tollsArriving 0 = .ok (.sipush 240, 3) := by decide +kernel
theorem dX8_tollsArriving_3 : decode cX8_tollsArriving 3 = .ok (.iload_n 1, 1) := by decide +kernel
theorem dX8_tollsArriving_4 : decode cX8_tollsArriving 4 = .ok (.iload_n 2, 1) := by decide +kernel
theorem dX8_tollsArriving_5 : decode cX8_tollsArriving 5 = .ok (.iadd, 1) := by decide +kernel
theorem dX8_tollsArriving_6 : decode cX8_tollsArriving 6 = .ok (.invokestatic 54, 3) := by decide +kernel
theorem dX8_tollsArriving_9 : decode cX8_tollsArriving 9 = .ok (.istore 4, 2) := by decide +kernel
theorem dX8_tollsArriving_11 : decode cX8_tollsArriving 11 = .ok (.aload_n 0, 1) := by decide +kernel
theorem dX8_tollsArriving_12 : decode cX8_tollsArriving 12 = .ok (.getfield 15, 3) := by decide +kernel
theorem dX8_tollsArriving_15 : decode cX8_tollsArriving 15 = .ok (.iload_n 1, 1) := by decide +kernel
theorem dX8_tollsArriving_16 : decode cX8_tollsArriving 16 = .ok (.iaload, 1) := by decide +kernel
theorem dX8_tollsArriving_17 : decode cX8_tollsArriving 17 = .ok (.aload_n 0, 1) := by decide +kernel
theorem dX8_tollsArriving_18 : decode cX8_tollsArriving 18 = .ok (.getfield 15, 3) := by decide +kernel
theorem dX8_tollsArriving_21 : decode cX8_tollsArriving 21 = .ok (.iload 4, 2) := by decide +kernel
theorem dX8_tollsArriving_23 : decode cX8_tollsArriving 23 = .ok (.iaload, 1) := by decide +kernel
theorem dX8_tollsArriving_24 : decode cX8_tollsArriving 24 = .ok (.isub, 1) := by decide +kernel
theorem dX8_tollsArriving_25 : decode cX8_tollsArriving 25 = .ok (.aload_n 0, 1) := by decide +kernel
theorem dX8_tollsArriving_26 : decode cX8_tollsArriving 26 = .ok (.getfield 18, 3) := by decide +kernel
theorem dX8_tollsArriving_29 : decode cX8_tollsArriving 29 = .ok (.iload 4, 2) := by decide +kernel
theorem dX8_tollsArriving_31 : decode cX8_tollsArriving 31 = .ok (.bipush 6, 2) := by decide +kernel
theorem dX8_tollsArriving_33 : decode cX8_tollsArriving 33 = .ok (.imul, 1) := by decide +kernel
theorem dX8_tollsArriving_34 : decode cX8_tollsArriving 34 = .ok (.iload_n 3, 1) := by decide +kernel
theorem dX8_tollsArriving_35 : decode cX8_tollsArriving 35 = .ok (.iadd, 1) := by decide +kernel
theorem dX8_tollsArriving_36 : decode cX8_tollsArriving 36 = .ok (.iaload, 1) := by decide +kernel
theorem dX8_tollsArriving_37 : decode cX8_tollsArriving 37 = .ok (.iadd, 1) := by decide +kernel
theorem dX8_tollsArriving_38 : decode cX8_tollsArriving 38 = .ok (.ireturn, 1) := by decide +kernel
theorem dX8_fewestTolls_0 : decode cX8_fewestTolls 0 = .ok (.aload_n 0, 1) := by decide +kernel
theorem dX8_fewestTolls_1 : decode cX8_fewestTolls 1 = .ok (.aload_n 1, 1) := by decide +kernel
theorem dX8_fewestTolls_2 : decode cX8_fewestTolls 2 = .ok (.getfield 27, 3) := by decide +kernel
theorem dX8_fewestTolls_5 : decode cX8_fewestTolls 5 = .ok (.aload_n 1, 1) := by decide +kernel
theorem dX8_fewestTolls_6 : decode cX8_fewestTolls 6 = .ok (.getfield 66, 3) := by decide +kernel
theorem dX8_fewestTolls_9 : decode cX8_fewestTolls 9 = .ok (.iload_n 2, 1) := by decide +kernel
theorem dX8_fewestTolls_10 : decode cX8_fewestTolls 10 = .ok (.iaload, 1) := by decide +kernel
theorem dX8_fewestTolls_11 : decode cX8_fewestTolls 11 = .ok (.aload_n 1, 1) := by decide +kernel
theorem dX8_fewestTolls_12 : decode cX8_fewestTolls 12 = .ok (.getfield 69, 3) := by decide +kernel
theorem dX8_fewestTolls_15 : decode cX8_fewestTolls 15 = .ok (.iload_n 2, 1) := by decide +kernel
theorem dX8_fewestTolls_16 : decode cX8_fewestTolls 16 = .ok (.iaload, 1) := by decide +kernel
theorem dX8_fewestTolls_17 : decode cX8_fewestTolls 17 = .ok (.invokevirtual 62, 3) := by decide +kernel
theorem dX8_fewestTolls_20 : decode cX8_fewestTolls 20 = .ok (.ireturn, 1) := by decide +kernel
theorem dX8_bestPlace_0 : decode cX8_bestPlace 0 = .ok (.aload_n 1, 1) := by decide +kernel
theorem dX8_bestPlace_1 : decode cX8_bestPlace 1 = .ok (.getfield 21, 3) := by decide +kernel
theorem dX8_bestPlace_4 : decode cX8_bestPlace 4 = .ok (.getfield 27, 3) := by decide +kernel
theorem dX8_bestPlace_7 : decode cX8_bestPlace 7 = .ok (.istore_n 3, 1) := by decide +kernel
theorem dX8_bestPlace_8 : decode cX8_bestPlace 8 = .ok (.aload_n 1, 1) := by decide +kernel
theorem dX8_bestPlace_9 : decode cX8_bestPlace 9 = .ok (.getfield 21, 3) := by decide +kernel
theorem dX8_bestPlace_12 : decode cX8_bestPlace 12 = .ok (.getfield 69, 3) := by decide +kernel
theorem dX8_bestPlace_15 : decode cX8_bestPlace 15 = .ok (.iload_n 2, 1) := by decide +kernel
theorem dX8_bestPlace_16 : decode cX8_bestPlace 16 = .ok (.iaload, 1) := by decide +kernel
theorem dX8_bestPlace_17 : decode cX8_bestPlace 17 = .ok (.istore 4, 2) := by decide +kernel
theorem dX8_bestPlace_19 : decode cX8_bestPlace 19 = .ok (.aload_n 1, 1) := by decide +kernel
theorem dX8_bestPlace_20 : decode cX8_bestPlace 20 = .ok (.getfield 21, 3) := by decide +kernel
theorem dX8_bestPlace_23 : decode cX8_bestPlace 23 = .ok (.getfield 66, 3) := by decide +kernel
theorem dX8_bestPlace_26 : decode cX8_bestPlace 26 = .ok (.iload_n 2, 1) := by decide +kernel
theorem dX8_bestPlace_27 : decode cX8_bestPlace 27 = .ok (.iaload, 1) := by decide +kernel
theorem dX8_bestPlace_28 : decode cX8_bestPlace 28 = .ok (.ifCond .gt 10, 3) := by decide +kernel
theorem dX8_bestPlace_31 : decode cX8_bestPlace 31 = .ok (.iload_n 3, 1) := by decide +kernel
theorem dX8_bestPlace_32 : decode cX8_bestPlace 32 = .ok (.sipush 240, 3) := by decide +kernel
theorem dX8_bestPlace_35 : decode cX8_bestPlace 35 = .ok (.if_icmp .lt 6, 3) := by decide +kernel
theorem dX8_bestPlace_38 : decode cX8_bestPlace 38 = .ok (.iload 4, 2) := by decide +kernel
theorem dX8_bestPlace_40 : decode cX8_bestPlace 40 = .ok (.ireturn, 1) := by decide +kernel
theorem dX8_bestPlace_41 : decode cX8_bestPlace 41 = .ok (.aload_n 0, 1) := by decide +kernel
theorem dX8_bestPlace_42 : decode cX8_bestPlace 42 = .ok (.aload_n 1, 1) := by decide +kernel
theorem dX8_bestPlace_43 : decode cX8_bestPlace 43 = .ok (.getfield 21, 3) := by decide +kernel
theorem dX8_bestPlace_46 : decode cX8_bestPlace 46 = .ok (.iload_n 2, 1) := by decide +kernel
theorem dX8_bestPlace_47 : decode cX8_bestPlace 47 = .ok (.invokevirtual 72, 3) := by decide +kernel
theorem dX8_bestPlace_50 : decode cX8_bestPlace 50 = .ok (.istore 5, 2) := by decide +kernel
theorem dX8_bestPlace_52 : decode cX8_bestPlace 52 = .ok (.iconst 0, 1) := by decide +kernel
theorem dX8_bestPlace_53 : decode cX8_bestPlace 53 = .ok (.istore 6, 2) := by decide +kernel
theorem dX8_bestPlace_55 : decode cX8_bestPlace 55 = .ok (.iload 6, 2) := by decide +kernel
theorem dX8_bestPlace_57 : decode cX8_bestPlace 57 = .ok (.aload_n 1, 1) := by decide +kernel
theorem dX8_bestPlace_58 : decode cX8_bestPlace 58 = .ok (.getfield 37, 3) := by decide +kernel
theorem dX8_bestPlace_61 : decode cX8_bestPlace 61 = .ok (.getfield 41, 3) := by decide +kernel
theorem dX8_bestPlace_64 : decode cX8_bestPlace 64 = .ok (.if_icmp .ge 30, 3) := by decide +kernel
theorem dX8_bestPlace_67 : decode cX8_bestPlace 67 = .ok (.aload_n 0, 1) := by decide +kernel
theorem dX8_bestPlace_68 : decode cX8_bestPlace 68 = .ok (.aload_n 1, 1) := by decide +kernel
theorem dX8_bestPlace_69 : decode cX8_bestPlace 69 = .ok (.getfield 37, 3) := by decide +kernel
theorem dX8_bestPlace_72 : decode cX8_bestPlace 72 = .ok (.iload_n 3, 1) := by decide +kernel
theorem dX8_bestPlace_73 : decode cX8_bestPlace 73 = .ok (.iload 4, 2) := by decide +kernel
theorem dX8_bestPlace_75 : decode cX8_bestPlace 75 = .ok (.iload 6, 2) := by decide +kernel
theorem dX8_bestPlace_77 : decode cX8_bestPlace 77 = .ok (.invokevirtual 50, 3) := by decide +kernel
theorem dX8_bestPlace_80 : decode cX8_bestPlace 80 = .ok (.iload 5, 2) := by decide +kernel
theorem dX8_bestPlace_82 : decode cX8_bestPlace 82 = .ok (.if_icmp .ne 6, 3) := by decide +kernel
theorem dX8_bestPlace_85 : decode cX8_bestPlace 85 = .ok (.iload 6, 2) := by decide +kernel
theorem dX8_bestPlace_87 : decode cX8_bestPlace 87 = .ok (.ireturn, 1) := by decide +kernel
theorem dX8_bestPlace_88 : decode cX8_bestPlace 88 = .ok (.iinc 6 1, 3) := by decide +kernel
theorem dX8_bestPlace_91 : decode cX8_bestPlace 91 = .ok (.goto (-36), 3) := by decide +kernel
theorem dX8_bestPlace_94 : decode cX8_bestPlace 94 = .ok (.iload 4, 2) := by decide +kernel
theorem dX8_bestPlace_96 : decode cX8_bestPlace 96 = .ok (.ireturn, 1) := by decide +kernel
theorem dX9_init_0 : decode cX9_init 0 = .ok (.aload_n 0, 1) := by decide +kernel
theorem dX9_init_1 : decode cX9_init 1 = .ok (.invokespecial 1, 3) := by decide +kernel
theorem dX9_init_4 : decode cX9_init 4 = .ok (.aload_n 0, 1) := by decide +kernel
theorem dX9_init_5 : decode cX9_init 5 = .ok (.new 7, 3) := by decide +kernel
theorem dX9_init_8 : decode cX9_init 8 = .ok (.dup, 1) := by decide +kernel
theorem dX9_init_9 : decode cX9_init 9 = .ok (.invokespecial 9, 3) := by decide +kernel
theorem dX9_init_12 : decode cX9_init 12 = .ok (.putfield 10, 3) := by decide +kernel
theorem dX9_init_15 : decode cX9_init 15 = .ok (.aload_n 0, 1) := by decide +kernel
theorem dX9_init_16 : decode cX9_init 16 = .ok (.new 16, 3) := by decide +kernel
theorem dX9_init_19 : decode cX9_init 19 = .ok (.dup, 1) := by decide +kernel
theorem dX9_init_20 : decode cX9_init 20 = .ok (.invokespecial 18, 3) := by decide +kernel
theorem dX9_init_23 : decode cX9_init 23 = .ok (.putfield 19, 3) := by decide +kernel
theorem dX9_init_26 : decode cX9_init 26 = .ok (.aload_n 0, 1) := by decide +kernel
theorem dX9_init_27 : decode cX9_init 27 = .ok (.new 23, 3) := by decide +kernel
theorem dX9_init_30 : decode cX9_init 30 = .ok (.dup, 1) := by decide +kernel
theorem dX9_init_31 : decode cX9_init 31 = .ok (.invokespecial 25, 3) := by decide +kernel
theorem dX9_init_34 : decode cX9_init 34 = .ok (.putfield 26, 3) := by decide +kernel
theorem dX9_init_37 : decode cX9_init 37 = .ok (.aload_n 0, 1) := by decide +kernel
theorem dX9_init_38 : decode cX9_init 38 = .ok (.new 30, 3) := by decide +kernel
theorem dX9_init_41 : decode cX9_init 41 = .ok (.dup, 1) := by decide +kernel
theorem dX9_init_42 : decode cX9_init 42 = .ok (.invokespecial 32, 3) := by decide +kernel
theorem dX9_init_45 : decode cX9_init 45 = .ok (.putfield 33, 3) := by decide +kernel
theorem dX9_init_48 : decode cX9_init 48 = .ok (.aload_n 0, 1) := by decide +kernel
theorem dX9_init_49 : decode cX9_init 49 = .ok (.new 37, 3) := by decide +kernel
theorem dX9_init_52 : decode cX9_init 52 = .ok (.dup, 1) := by decide +kernel
theorem dX9_init_53 : decode cX9_init 53 = .ok (.invokespecial 39, 3) := by decide +kernel
theorem dX9_init_56 : decode cX9_init 56 = .ok (.putfield 40, 3) := by decide +kernel
theorem dX9_init_59 : decode cX9_init 59 = .ok (.aload_n 0, 1) := by decide +kernel
theorem dX9_init_60 : decode cX9_init 60 = .ok (.new 44, 3) := by decide +kernel
theorem dX9_init_63 : decode cX9_init 63 = .ok (.dup, 1) := by decide +kernel
theorem dX9_init_64 : decode cX9_init 64 = .ok (.invokespecial 46, 3) := by decide +kernel
theorem dX9_init_67 : decode cX9_init 67 = .ok (.putfield 47, 3) := by decide +kernel
theorem dX9_init_70 : decode cX9_init 70 = .ok (.aload_n 0, 1) := by decide +kernel
theorem dX9_init_71 : decode cX9_init 71 = .ok (.new 51, 3) := by decide +kernel
theorem dX9_init_74 : decode cX9_init 74 = .ok (.dup, 1) := by decide +kernel
theorem dX9_init_75 : decode cX9_init 75 = .ok (.invokespecial 53, 3) := by decide +kernel
theorem dX9_init_78 : decode cX9_init 78 = .ok (.putfield 54, 3) := by decide +kernel
theorem dX9_init_81 : decode cX9_init 81 = .ok (.aload_n 0, 1) := by decide +kernel
theorem dX9_init_82 : decode cX9_init 82 = .ok (.iconst 2, 1) := by decide +kernel
theorem dX9_init_83 : decode cX9_init 83 = .ok (.anewarray 58, 3) := by decide +kernel
theorem dX9_init_86 : decode cX9_init 86 = .ok (.putfield 60, 3) := by decide +kernel
theorem dX9_init_89 : decode cX9_init 89 = .ok (.iconst 0, 1) := by decide +kernel
theorem dX9_init_90 : decode cX9_init 90 = .ok (.istore_n 1, 1) := by decide +kernel
theorem dX9_init_91 : decode cX9_init 91 = .ok (.iload_n 1, 1) := by decide +kernel
theorem dX9_init_92 : decode cX9_init 92 = .ok (.iconst 2, 1) := by decide +kernel
theorem dX9_init_93 : decode cX9_init 93 = .ok (.if_icmp .ge 22, 3) := by decide +kernel
theorem dX9_init_96 : decode cX9_init 96 = .ok (.aload_n 0, 1) := by decide +kernel
theorem dX9_init_97 : decode cX9_init 97 = .ok (.getfield 60, 3) := by decide +kernel
theorem dX9_init_100 : decode cX9_init 100 = .ok (.iload_n 1, 1) := by decide +kernel
theorem dX9_init_101 : decode cX9_init 101 = .ok (.new 58, 3) := by decide +kernel
theorem dX9_init_104 : decode cX9_init 104 = .ok (.dup, 1) := by decide +kernel
theorem dX9_init_105 : decode cX9_init 105 = .ok (.invokespecial 64, 3) := by decide +kernel
theorem dX9_init_108 : decode cX9_init 108 = .ok (.aastore, 1) := by decide +kernel
theorem dX9_init_109 : decode cX9_init 109 = .ok (.iinc 1 1, 3) := by decide +kernel
theorem dX9_init_112 : decode cX9_init 112 = .ok (.goto (-21), 3) := by decide +kernel
theorem dX9_init_115 : decode cX9_init 115 = .ok (.aload_n 0, 1) := by decide +kernel
theorem dX9_init_116 : decode cX9_init 116 = .ok (.iconst 2, 1) := by decide +kernel
theorem dX9_init_117 : decode cX9_init 117 = .ok (.newarray .boolean, 2) := by decide +kernel
theorem dX9_init_119 : decode cX9_init 119 = .ok (.putfield 65, 3) := by decide +kernel
theorem dX9_init_122 : decode cX9_init 122 = .ok (.return_, 1) := by decide +kernel
theorem dX9_type_0 : decode cX9_type 0 = .ok (.iload_n 1, 1) := by decide +kernel
theorem dX9_type_1 : decode cX9_type 1 = .ok (.ifCond .lt 10, 3) := by decide +kernel
theorem dX9_type_4 : decode cX9_type 4 = .ok (.iload_n 1, 1) := by decide +kernel
theorem dX9_type_5 : decode cX9_type 5 = .ok (.sipush 255, 3) := by decide +kernel
theorem dX9_type_8 : decode cX9_type 8 = .ok (.if_icmp .le 5, 3) := by decide +kernel
theorem dX9_type_11 : decode cX9_type 11 = .ok (.iconst (-1), 1) := by decide +kernel
theorem dX9_type_12 : decode cX9_type 12 = .ok (.ireturn, 1) := by decide +kernel
theorem dX9_type_13 : decode cX9_type 13 = .ok (.aload_n 0, 1) := by decide +kernel
theorem dX9_type_14 : decode cX9_type 14 = .ok (.getfield 10, 3) := by decide +kernel
theorem dX9_type_17 : decode cX9_type 17 = .ok (.iload_n 1, 1) := by decide +kernel
theorem dX9_type_18 : decode cX9_type 18 = .ok (.invokevirtual 69, 3) := by decide +kernel
theorem dX9_type_21 : decode cX9_type 21 = .ok (.ifCond .eq 13, 3) := by decide +kernel
theorem dX9_type_24 : decode cX9_type 24 = .ok (.aload_n 0, 1) := by decide +kernel
theorem dX9_type_25 : decode cX9_type 25 = .ok (.getfield 10, 3) := by decide +kernel
theorem dX9_type_28 : decode cX9_type 28 = .ok (.getfield 73, 3) := by decide +kernel
theorem dX9_type_31 : decode cX9_type 31 = .ok (.goto 5, 3) := by decide +kernel
theorem dX9_type_34 : decode cX9_type 34 = .ok (.bipush (-3), 2) := by decide +kernel
theorem dX9_type_36 : decode cX9_type 36 = .ok (.ireturn, 1) := by decide +kernel
theorem dX9_clear_0 : decode cX9_clear 0 = .ok (.aload_n 0, 1) := by decide +kernel
theorem dX9_clear_1 : decode cX9_clear 1 = .ok (.getfield 10, 3) := by decide +kernel
theorem dX9_clear_4 : decode cX9_clear 4 = .ok (.invokevirtual 77, 3) := by decide +kernel
theorem dX9_clear_7 : decode cX9_clear 7 = .ok (.ireturn, 1) := by decide +kernel
theorem dX9_town_0 : decode cX9_town 0 = .ok (.aload_n 0, 1) := by decide +kernel
theorem dX9_town_1 : decode cX9_town 1 = .ok (.getfield 10, 3) := by decide +kernel
theorem dX9_town_4 : decode cX9_town 4 = .ok (.invokevirtual 81, 3) := by decide +kernel
theorem dX9_town_7 : decode cX9_town 7 = .ok (.istore_n 1, 1) := by decide +kernel
theorem dX9_town_8 : decode cX9_town 8 = .ok (.aload_n 0, 1) := by decide +kernel
theorem dX9_town_9 : decode cX9_town 9 = .ok (.getfield 10, 3) := by decide +kernel
theorem dX9_town_12 : decode cX9_town 12 = .ok (.invokevirtual 84, 3) := by decide +kernel
theorem dX9_town_15 : decode cX9_town 15 = .ok (.ifCond .eq 14, 3) := by decide +kernel
theorem dX9_town_18 : decode cX9_town 18 = .ok (.bipush (-10), 2) := by decide +kernel
theorem dX9_town_20 : decode cX9_town 20 = .ok (.aload_n 0, 1) := by decide +kernel
theorem dX9_town_21 : decode cX9_town 21 = .ok (.getfield 10, 3) := by decide +kernel
theorem dX9_town_24 : decode cX9_town 24 = .ok (.getfield 88, 3) := by decide +kernel
theorem dX9_town_27 : decode cX9_town 27 = .ok (.isub, 1) := by decide +kernel
theorem dX9_town_28 : decode cX9_town 28 = .ok (.ireturn, 1) := by decide +kernel
theorem dX9_town_29 : decode cX9_town 29 = .ok (.aload_n 0, 1) := by decide +kernel
theorem dX9_town_30 : decode cX9_town 30 = .ok (.getfield 10, 3) := by decide +kernel
theorem dX9_town_33 : decode cX9_town 33 = .ok (.invokevirtual 77, 3) := by decide +kernel
theorem dX9_town_36 : decode cX9_town 36 = .ok (.pop, 1) := by decide +kernel
theorem dX9_town_37 : decode cX9_town 37 = .ok (.aload_n 0, 1) := by decide +kernel
theorem dX9_town_38 : decode cX9_town 38 = .ok (.getfield 19, 3) := by decide +kernel
theorem dX9_town_41 : decode cX9_town 41 = .ok (.aload_n 0, 1) := by decide +kernel
theorem dX9_town_42 : decode cX9_town 42 = .ok (.getfield 10, 3) := by decide +kernel
theorem dX9_town_45 : decode cX9_town 45 = .ok (.getfield 91, 3) := by decide +kernel
theorem dX9_town_48 : decode cX9_town 48 = .ok (.invokevirtual 95, 3) := by decide +kernel
theorem dX9_town_51 : decode cX9_town 51 = .ok (.aload_n 0, 1) := by decide +kernel
theorem dX9_town_52 : decode cX9_town 52 = .ok (.getfield 26, 3) := by decide +kernel
theorem dX9_town_55 : decode cX9_town 55 = .ok (.invokevirtual 99, 3) := by decide +kernel
theorem dX9_town_58 : decode cX9_town 58 = .ok (.aload_n 0, 1) := by decide +kernel
theorem dX9_town_59 : decode cX9_town 59 = .ok (.getfield 33, 3) := by decide +kernel
theorem dX9_town_62 : decode cX9_town 62 = .ok (.invokevirtual 102, 3) := by decide +kernel
theorem dX9_town_65 : decode cX9_town 65 = .ok (.pop, 1) := by decide +kernel
theorem dX9_town_66 : decode cX9_town 66 = .ok (.iconst 0, 1) := by decide +kernel
theorem dX9_town_67 : decode cX9_town 67 = .ok (.istore_n 2, 1) := by decide +kernel
theorem dX9_town_68 : decode cX9_town 68 = .ok (.iload_n 2, 1) := by decide +kernel
theorem dX9_town_69 : decode cX9_town 69 = .ok (.iconst 2, 1) := by decide +kernel
theorem dX9_town_70 : decode cX9_town 70 = .ok (.if_icmp .ge 16, 3) := by decide +kernel
theorem dX9_town_73 : decode cX9_town 73 = .ok (.aload_n 0, 1) := by decide +kernel
theorem dX9_town_74 : decode cX9_town 74 = .ok (.getfield 65, 3) := by decide +kernel
theorem dX9_town_77 : decode cX9_town 77 = .ok (.iload_n 2, 1) := by decide +kernel
theorem dX9_town_78 : decode cX9_town 78 = .ok (.iconst 0, 1) := by decide +kernel
theorem dX9_town_79 : decode cX9_town 79 = .ok (.bastore, 1) := by decide +kernel
theorem dX9_town_80 : decode cX9_town 80 = .ok (.iinc 2 1, 3) := by decide +kernel
theorem dX9_town_83 : decode cX9_town 83 = .ok (.goto (-15), 3) := by decide +kernel
theorem dX9_town_86 : decode cX9_town 86 = .ok (.iload_n 1, 1) := by decide +kernel
theorem dX9_town_87 : decode cX9_town 87 = .ok (.ireturn, 1) := by decide +kernel
theorem dX9_person_0 : decode cX9_person 0 = .ok (.aload_n 0, 1) := by decide +kernel
theorem dX9_person_1 : decode cX9_person 1 = .ok (.getfield 19, 3) := by decide +kernel
theorem dX9_person_4 : decode cX9_person 4 = .ok (.getfield 105, 3) := by decide +kernel
theorem dX9_person_7 : decode cX9_person 7 = .ok (.iload_n 1, 1) := by decide +kernel
theorem dX9_person_8 : decode cX9_person 8 = .ok (.invokevirtual 108, 3) := by decide +kernel
theorem dX9_person_11 : decode cX9_person 11 = .ok (.ifCond .ne 5, 3) := by decide +kernel
theorem dX9_person_14 : decode cX9_person 14 = .ok (.iconst (-1), 1) := by decide +kernel
theorem dX9_person_15 : decode cX9_person 15 = .ok (.ireturn, 1) := by decide +kernel
theorem dX9_person_16 : decode cX9_person 16 = .ok (.aload_n 0, 1) := by decide +kernel
theorem dX9_person_17 : decode cX9_person 17 = .ok (.getfield 19, 3) := by decide +kernel
theorem dX9_person_20 : decode cX9_person 20 = .ok (.getfield 113, 3) := by decide +kernel
theorem dX9_person_23 : decode cX9_person 23 = .ok (.astore_n 3, 1) := by decide +kernel
theorem dX9_person_24 : decode cX9_person 24 = .ok (.iload_n 2, 1) := by decide +kernel
theorem dX9_person_25 : decode cX9_person 25 = .ok (.tableswitch 110 0 5 #[39, 60, 67, 74, 81, 97], 39) := by decide +kernel
theorem dX9_person_64 : decode cX9_person 64 = .ok (.aload_n 3, 1) := by decide +kernel
theorem dX9_person_65 : decode cX9_person 65 = .ok (.getfield 117, 3) := by decide +kernel
theorem dX9_person_68 : decode cX9_person 68 = .ok (.iload_n 1, 1) := by decide +kernel
theorem dX9_person_69 : decode cX9_person 69 = .ok (.iaload, 1) := by decide +kernel
theorem dX9_person_70 : decode cX9_person 70 = .ok (.ifCond .le 8, 3) := by decide +kernel
theorem dX9_person_73 : decode cX9_person 73 = .ok (.bipush (-9), 2) := by decide +kernel
theorem dX9_person_75 : decode cX9_person 75 = .ok (.goto 9, 3) := by decide +kernel
theorem dX9_person_78 : decode cX9_person 78 = .ok (.aload_n 3, 1) := by decide +kernel
theorem dX9_person_79 : decode cX9_person 79 = .ok (.getfield 121, 3) := by decide +kernel
theorem dX9_person_82 : decode cX9_person 82 = .ok (.iload_n 1, 1) := by decide +kernel
theorem dX9_person_83 : decode cX9_person 83 = .ok (.iaload, 1) := by decide +kernel
theorem dX9_person_84 : decode cX9_person 84 = .ok (.ireturn, 1) := by decide +kernel
theorem dX9_person_85 : decode cX9_person 85 = .ok (.aload_n 3, 1) := by decide +kernel
theorem dX9_person_86 : decode cX9_person 86 = .ok (.getfield 121, 3) := by decide +kernel
theorem dX9_person_89 : decode cX9_person 89 = .ok (.iload_n 1, 1) := by decide +kernel
theorem dX9_person_90 : decode cX9_person 90 = .ok (.iaload, 1) := by decide +kernel
theorem dX9_person_91 : decode cX9_person 91 = .ok (.ireturn, 1) := by decide +kernel
theorem dX9_person_92 : decode cX9_person 92 = .ok (.aload_n 3, 1) := by decide +kernel
theorem dX9_person_93 : decode cX9_person 93 = .ok (.getfield 117, 3) := by decide +kernel
theorem dX9_person_96 : decode cX9_person 96 = .ok (.iload_n 1, 1) := by decide +kernel
theorem dX9_person_97 : decode cX9_person 97 = .ok (.iaload, 1) := by decide +kernel
theorem dX9_person_98 : decode cX9_person 98 = .ok (.ireturn, 1) := by decide +kernel
theorem dX9_person_99 : decode cX9_person 99 = .ok (.aload_n 3, 1) := by decide +kernel
theorem dX9_person_100 : decode cX9_person 100 = .ok (.getfield 124, 3) := by decide +kernel
theorem dX9_person_103 : decode cX9_person 103 = .ok (.iload_n 1, 1) := by decide +kernel
theorem dX9_person_104 : decode cX9_person 104 = .ok (.iaload, 1) := by decide +kernel
theorem dX9_person_105 : decode cX9_person 105 = .ok (.ireturn, 1) := by decide +kernel
theorem dX9_person_106 : decode cX9_person 106 = .ok (.aload_n 0, 1) := by decide +kernel
theorem dX9_person_107 : decode cX9_person 107 = .ok (.getfield 19, 3) := by decide +kernel
theorem dX9_person_110 : decode cX9_person 110 = .ok (.aload_n 3, 1) := by decide +kernel
theorem dX9_person_111 : decode cX9_person 111 = .ok (.getfield 127, 3) := by decide +kernel
theorem dX9_person_114 : decode cX9_person 114 = .ok (.invokevirtual 130, 3) := by decide +kernel
theorem dX9_person_117 : decode cX9_person 117 = .ok (.iload_n 1, 1) := by decide +kernel
theorem dX9_person_118 : decode cX9_person 118 = .ok (.invokestatic 134, 3) := by decide +kernel
theorem dX9_person_121 : decode cX9_person 121 = .ok (.ireturn, 1) := by decide +kernel
theorem dX9_person_122 : decode cX9_person 122 = .ok (.aload_n 0, 1) := by decide +kernel
theorem dX9_person_123 : decode cX9_person 123 = .ok (.getfield 19, 3) := by decide +kernel
theorem dX9_person_126 : decode cX9_person 126 = .ok (.getfield 105, 3) := by decide +kernel
theorem dX9_person_129 : decode cX9_person 129 = .ok (.getfield 138, 3) := by decide +kernel
theorem dX9_person_132 : decode cX9_person 132 = .ok (.iload_n 1, 1) := by decide +kernel
theorem dX9_person_133 : decode cX9_person 133 = .ok (.iaload, 1) := by decide +kernel
theorem dX9_person_134 : decode cX9_person 134 = .ok (.ireturn, 1) := by decide +kernel
theorem dX9_person_135 : decode cX9_person 135 = .ok (.iconst (-1), 1) := by decide +kernel
theorem dX9_person_136 : decode cX9_person 136 = .ok (.ireturn, 1) := by decide +kernel
theorem dX9_duty_0 : decode cX9_duty 0 = .ok (.aload_n 0, 1) := by decide +kernel
theorem dX9_duty_1 : decode cX9_duty 1 = .ok (.getfield 19, 3) := by decide +kernel
theorem dX9_duty_4 : decode cX9_duty 4 = .ok (.getfield 105, 3) := by decide +kernel
theorem dX9_duty_7 : decode cX9_duty 7 = .ok (.iload_n 1, 1) := by decide +kernel
theorem dX9_duty_8 : decode cX9_duty 8 = .ok (.invokevirtual 141, 3) := by decide +kernel
theorem dX9_duty_11 : decode cX9_duty 11 = .ok (.ifCond .ne 5, 3) := by decide +kernel
theorem dX9_duty_14 : decode cX9_duty 14 = .ok (.iconst (-1), 1) := by decide +kernel
theorem dX9_duty_15 : decode cX9_duty 15 = .ok (.ireturn, 1) := by decide +kernel
theorem dX9_duty_16 : decode cX9_duty 16 = .ok (.iload_n 2, 1) := by decide +kernel
theorem dX9_duty_17 : decode cX9_duty 17 = .ok (.tableswitch 102 0 4 #[35, 48, 61, 74, 87], 35) := by decide +kernel
theorem dX9_duty_52 : decode cX9_duty 52 = .ok (.aload_n 0, 1) := by decide +kernel
theorem dX9_duty_53 : decode cX9_duty 53 = .ok (.getfield 19, 3) := by decide +kernel
theorem dX9_duty_56 : decode cX9_duty 56 = .ok (.getfield 113, 3) := by decide +kernel
theorem dX9_duty_59 : decode cX9_duty 59 = .ok (.getfield 144, 3) := by decide +kernel
theorem dX9_duty_62 : decode cX9_duty 62 = .ok (.iload_n 1, 1) := by decide +kernel
theorem dX9_duty_63 : decode cX9_duty 63 = .ok (.iaload, 1) := by decide +kernel
theorem dX9_duty_64 : decode cX9_duty 64 = .ok (.ireturn, 1) := by decide +kernel
theorem dX9_duty_65 : decode cX9_duty 65 = .ok (.aload_n 0, 1) := by decide +kernel
theorem dX9_duty_66 : decode cX9_duty 66 = .ok (.getfield 19, 3) := by decide +kernel
theorem dX9_duty_69 : decode cX9_duty 69 = .ok (.getfield 105, 3) := by decide +kernel
theorem dX9_duty_72 : decode cX9_duty 72 = .ok (.getfield 147, 3) := by decide +kernel
theorem dX9_duty_75 : decode cX9_duty 75 = .ok (.iload_n 1, 1) := by decide +kernel
theorem dX9_duty_76 : decode cX9_duty 76 = .ok (.iaload, 1) := by decide +kernel
theorem dX9_duty_77 : decode cX9_duty 77 = .ok (.ireturn, 1) := by decide +kernel
theorem dX9_duty_78 : decode cX9_duty 78 = .ok (.aload_n 0, 1) := by decide +kernel
theorem dX9_duty_79 : decode cX9_duty 79 = .ok (.getfield 19, 3) := by decide +kernel
theorem dX9_duty_82 : decode cX9_duty 82 = .ok (.getfield 105, 3) := by decide +kernel
theorem dX9_duty_85 : decode cX9_duty 85 = .ok (.getfield 148, 3) := by decide +kernel
theorem dX9_duty_88 : decode cX9_duty 88 = .ok (.iload_n 1, 1) := by decide +kernel
theorem dX9_duty_89 : decode cX9_duty 89 = .ok (.iaload, 1) := by decide +kernel
theorem dX9_duty_90 : decode cX9_duty 90 = .ok (.ireturn, 1) := by decide +kernel
theorem dX9_duty_91 : decode cX9_duty 91 = .ok (.aload_n 0, 1) := by decide +kernel
theorem dX9_duty_92 : decode cX9_duty 92 = .ok (.getfield 19, 3) := by decide +kernel
theorem dX9_duty_95 : decode cX9_duty 95 = .ok (.getfield 105, 3) := by decide +kernel
theorem dX9_duty_98 : decode cX9_duty 98 = .ok (.getfield 151, 3) := by decide +kernel
theorem dX9_duty_101 : decode cX9_duty 101 = .ok (.iload_n 1, 1) := by decide +kernel
theorem dX9_duty_102 : decode cX9_duty 102 = .ok (.iaload, 1) := by decide +kernel
theorem dX9_duty_103 : decode cX9_duty 103 = .ok (.ireturn, 1) := by decide +kernel
theorem dX9_duty_104 : decode cX9_duty 104 = .ok (.aload_n 0, 1) := by decide +kernel
theorem dX9_duty_105 : decode cX9_duty 105 = .ok (.getfield 19, 3) := by decide +kernel
theorem dX9_duty_108 : decode cX9_duty 108 = .ok (.getfield 113, 3) := by decide +kernel
theorem dX9_duty_111 : decode cX9_duty 111 = .ok (.getfield 154, 3) := by decide +kernel
theorem dX9_duty_114 : decode cX9_duty 114 = .ok (.iload_n 1, 1) := by decide +kernel
theorem dX9_duty_115 : decode cX9_duty 115 = .ok (.invokestatic 134, 3) := by decide +kernel
theorem dX9_duty_118 : decode cX9_duty 118 = .ok (.ireturn, 1) := by decide +kernel
theorem dX9_duty_119 : decode cX9_duty 119 = .ok (.iconst (-1), 1) := by decide +kernel
theorem dX9_duty_120 : decode cX9_duty 120 = .ok (.ireturn, 1) := by decide +kernel
theorem dX9_now_0 : decode cX9_now 0 = .ok (.iload_n 1, 1) := by decide +kernel
theorem dX9_now_1 : decode cX9_now 1 = .ok (.tableswitch 93 0 5 #[39, 50, 61, 69, 77, 85], 39) := by decide +kernel
theorem dX9_now_40 : decode cX9_now 40 = .ok (.aload_n 0, 1) := by decide +kernel
theorem dX9_now_41 : decode cX9_now 41 = .ok (.getfield 19, 3) := by decide +kernel
theorem dX9_now_44 : decode cX9_now 44 = .ok (.getfield 113, 3) := by decide +kernel
theorem dX9_now_47 : decode cX9_now 47 = .ok (.getfield 127, 3) := by decide +kernel
theorem dX9_now_50 : decode cX9_now 50 = .ok (.ireturn, 1) := by decide +kernel
theorem dX9_now_51 : decode cX9_now 51 = .ok (.aload_n 0, 1) := by decide +kernel
theorem dX9_now_52 : decode cX9_now 52 = .ok (.getfield 19, 3) := by decide +kernel
theorem dX9_now_55 : decode cX9_now 55 = .ok (.getfield 113, 3) := by decide +kernel
theorem dX9_now_58 : decode cX9_now 58 = .ok (.getfield 154, 3) := by decide +kernel
theorem dX9_now_61 : decode cX9_now 61 = .ok (.ireturn, 1) := by decide +kernel
theorem dX9_now_62 : decode cX9_now 62 = .ok (.aload_n 0, 1) := by decide +kernel
theorem dX9_now_63 : decode cX9_now 63 = .ok (.getfield 19, 3) := by decide +kernel
theorem dX9_now_66 : decode cX9_now 66 = .ok (.invokevirtual 157, 3) := by decide +kernel
theorem dX9_now_69 : decode cX9_now 69 = .ok (.ireturn, 1) := by decide +kernel
theorem dX9_now_70 : decode cX9_now 70 = .ok (.aload_n 0, 1) := by decide +kernel
theorem dX9_now_71 : decode cX9_now 71 = .ok (.getfield 19, 3) := by decide +kernel
theorem dX9_now_74 : decode cX9_now 74 = .ok (.invokevirtual 160, 3) := by decide +kernel
theorem dX9_now_77 : decode cX9_now 77 = .ok (.ireturn, 1) := by decide +kernel
theorem dX9_now_78 : decode cX9_now 78 = .ok (.aload_n 0, 1) := by decide +kernel
theorem dX9_now_79 : decode cX9_now 79 = .ok (.getfield 19, 3) := by decide +kernel
theorem dX9_now_82 : decode cX9_now 82 = .ok (.invokevirtual 163, 3) := by decide +kernel
theorem dX9_now_85 : decode cX9_now 85 = .ok (.ireturn, 1) := by decide +kernel
theorem dX9_now_86 : decode cX9_now 86 = .ok (.aload_n 0, 1) := by decide +kernel
theorem dX9_now_87 : decode cX9_now 87 = .ok (.getfield 26, 3) := by decide +kernel
theorem dX9_now_90 : decode cX9_now 90 = .ok (.getfield 166, 3) := by decide +kernel
theorem dX9_now_93 : decode cX9_now 93 = .ok (.ireturn, 1) := by decide +kernel
theorem dX9_now_94 : decode cX9_now 94 = .ok (.iconst (-1), 1) := by decide +kernel
theorem dX9_now_95 : decode cX9_now 95 = .ok (.ireturn, 1) := by decide +kernel
theorem dX9_goes_0 : decode cX9_goes 0 = .ok (.aload_n 0, 1) := by decide +kernel
theorem dX9_goes_1 : decode cX9_goes 1 = .ok (.getfield 19, 3) := by decide +kernel
theorem dX9_goes_4 : decode cX9_goes 4 = .ok (.getfield 105, 3) := by decide +kernel
theorem dX9_goes_7 : decode cX9_goes 7 = .ok (.iload_n 1, 1) := by decide +kernel
theorem dX9_goes_8 : decode cX9_goes 8 = .ok (.invokevirtual 108, 3) := by decide +kernel
theorem dX9_goes_11 : decode cX9_goes 11 = .ok (.ifCond .eq 17, 3) := by decide +kernel
theorem dX9_goes_14 : decode cX9_goes 14 = .ok (.aload_n 0, 1) := by decide +kernel
theorem dX9_goes_15 : decode cX9_goes 15 = .ok (.getfield 19, 3) := by decide +kernel
theorem dX9_goes_18 : decode cX9_goes 18 = .ok (.getfield 105, 3) := by decide +kernel
theorem dX9_goes_21 : decode cX9_goes 21 = .ok (.iload_n 2, 1) := by decide +kernel
theorem dX9_goes_22 : decode cX9_goes 22 = .ok (.invokevirtual 169, 3) := by decide +kernel
theorem dX9_goes_25 : decode cX9_goes 25 = .ok (.ifCond .ne 5, 3) := by decide +kernel
theorem dX9_goes_28 : decode cX9_goes 28 = .ok (.iconst (-1), 1) := by decide +kernel
theorem dX9_goes_29 : decode cX9_goes 29 = .ok (.ireturn, 1) := by decide +kernel
theorem dX9_goes_30 : decode cX9_goes 30 = .ok (.aload_n 0, 1) := by decide +kernel
theorem dX9_goes_31 : decode cX9_goes 31 = .ok (.getfield 19, 3) := by decide +kernel
theorem dX9_goes_34 : decode cX9_goes 34 = .ok (.getfield 113, 3) := by decide +kernel
theorem dX9_goes_37 : decode cX9_goes 37 = .ok (.astore_n 3, 1) := by decide +kernel
theorem dX9_goes_38 : decode cX9_goes 38 = .ok (.aload_n 3, 1) := by decide +kernel
theorem dX9_goes_39 : decode cX9_goes 39 = .ok (.getfield 117, 3) := by decide +kernel
theorem dX9_goes_42 : decode cX9_goes 42 = .ok (.iload_n 1, 1) := by decide +kernel
theorem dX9_goes_43 : decode cX9_goes 43 = .ok (.iaload, 1) := by decide +kernel
theorem dX9_goes_44 : decode cX9_goes 44 = .ok (.ifCond .gt 13, 3) := by decide +kernel
theorem dX9_goes_47 : decode cX9_goes 47 = .ok (.aload_n 3, 1) := by decide +kernel
theorem dX9_goes_48 : decode cX9_goes 48 = .ok (.getfield 121, 3) := by decide +kernel
theorem dX9_goes_51 : decode cX9_goes 51 = .ok (.iload_n 1, 1) := by decide +kernel
theorem dX9_goes_52 : decode cX9_goes 52 = .ok (.iaload, 1) := by decide +kernel
theorem dX9_goes_53 : decode cX9_goes 53 = .ok (.iload_n 2, 1) := by decide +kernel
theorem dX9_goes_54 : decode cX9_goes 54 = .ok (.if_icmp .ne 6, 3) := by decide +kernel
theorem dX9_goes_57 : decode cX9_goes 57 = .ok (.bipush (-2), 2) := by decide +kernel
theorem dX9_goes_59 : decode cX9_goes 59 = .ok (.ireturn, 1) := by decide +kernel
theorem dX9_goes_60 : decode cX9_goes 60 = .ok (.aload_n 0, 1) := by decide +kernel
theorem dX9_goes_61 : decode cX9_goes 61 = .ok (.getfield 26, 3) := by decide +kernel
theorem dX9_goes_64 : decode cX9_goes 64 = .ok (.aload_n 3, 1) := by decide +kernel
theorem dX9_goes_65 : decode cX9_goes 65 = .ok (.invokevirtual 172, 3) := by decide +kernel
theorem dX9_goes_68 : decode cX9_goes 68 = .ok (.aload_n 3, 1) := by decide +kernel
theorem dX9_goes_69 : decode cX9_goes 69 = .ok (.getfield 117, 3) := by decide +kernel
theorem dX9_goes_72 : decode cX9_goes 72 = .ok (.iload_n 1, 1) := by decide +kernel
theorem dX9_goes_73 : decode cX9_goes 73 = .ok (.aload_n 0, 1) := by decide +kernel
theorem dX9_goes_74 : decode cX9_goes 74 = .ok (.getfield 19, 3) := by decide +kernel
theorem dX9_goes_77 : decode cX9_goes 77 = .ok (.getfield 105, 3) := by decide +kernel
theorem dX9_goes_80 : decode cX9_goes 80 = .ok (.aload_n 3, 1) := by decide +kernel
theorem dX9_goes_81 : decode cX9_goes 81 = .ok (.getfield 121, 3) := by decide +kernel
theorem dX9_goes_84 : decode cX9_goes 84 = .ok (.iload_n 1, 1) := by decide +kernel
theorem dX9_goes_85 : decode cX9_goes 85 = .ok (.iaload, 1) := by decide +kernel
theorem dX9_goes_86 : decode cX9_goes 86 = .ok (.iload_n 2, 1) := by decide +kernel
theorem dX9_goes_87 : decode cX9_goes 87 = .ok (.invokevirtual 176, 3) := by decide +kernel
theorem dX9_goes_90 : decode cX9_goes 90 = .ok (.iastore, 1) := by decide +kernel
theorem dX9_goes_91 : decode cX9_goes 91 = .ok (.aload_n 3, 1) := by decide +kernel
theorem dX9_goes_92 : decode cX9_goes 92 = .ok (.getfield 121, 3) := by decide +kernel
theorem dX9_goes_95 : decode cX9_goes 95 = .ok (.iload_n 1, 1) := by decide +kernel
theorem dX9_goes_96 : decode cX9_goes 96 = .ok (.iload_n 2, 1) := by decide +kernel
theorem dX9_goes_97 : decode cX9_goes 97 = .ok (.iastore, 1) := by decide +kernel
theorem dX9_goes_98 : decode cX9_goes 98 = .ok (.aload_n 3, 1) := by decide +kernel
theorem dX9_goes_99 : decode cX9_goes 99 = .ok (.getfield 117, 3) := by decide +kernel
theorem dX9_goes_102 : decode cX9_goes 102 = .ok (.iload_n 1, 1) := by decide +kernel
theorem dX9_goes_103 : decode cX9_goes 103 = .ok (.iaload, 1) := by decide +kernel
theorem dX9_goes_104 : decode cX9_goes 104 = .ok (.ireturn, 1) := by decide +kernel
theorem dX9_passes_0 : decode cX9_passes 0 = .ok (.iload_n 1, 1) := by decide +kernel
theorem dX9_passes_1 : decode cX9_passes 1 = .ok (.iconst 1, 1) := by decide +kernel
theorem dX9_passes_2 : decode cX9_passes 2 = .ok (.if_icmp .lt 10, 3) := by decide +kernel
theorem dX9_passes_5 : decode cX9_passes 5 = .ok (.iload_n 1, 1) := by decide +kernel
theorem dX9_passes_6 : decode cX9_passes 6 = .ok (.sipush 240, 3) := by decide +kernel
theorem dX9_passes_9 : decode cX9_passes 9 = .ok (.if_icmp .le 5, 3) := by decide +kernel
theorem dX9_passes_12 : decode cX9_passes 12 = .ok (.iconst (-1), 1) := by decide +kernel
theorem dX9_passes_13 : decode cX9_passes 13 = .ok (.ireturn, 1) := by decide +kernel
theorem dX9_passes_14 : decode cX9_passes 14 = .ok (.aload_n 0, 1) := by decide +kernel
theorem dX9_passes_15 : decode cX9_passes 15 = .ok (.getfield 19, 3) := by decide +kernel
theorem dX9_passes_18 : decode cX9_passes 18 = .ok (.getfield 113, 3) := by decide +kernel
theorem dX9_passes_21 : decode cX9_passes 21 = .ok (.getfield 127, 3) := by decide +kernel
theorem dX9_passes_24 : decode cX9_passes 24 = .ok (.iload_n 1, 1) := by decide +kernel
theorem dX9_passes_25 : decode cX9_passes 25 = .ok (.iadd, 1) := by decide +kernel
theorem dX9_passes_26 : decode cX9_passes 26 = .ok (.sipush 240, 3) := by decide +kernel
theorem dX9_passes_29 : decode cX9_passes 29 = .ok (.if_icmp .le 6, 3) := by decide +kernel
theorem dX9_passes_32 : decode cX9_passes 32 = .ok (.bipush (-2), 2) := by decide +kernel
theorem dX9_passes_34 : decode cX9_passes 34 = .ok (.ireturn, 1) := by decide +kernel
theorem dX9_passes_35 : decode cX9_passes 35 = .ok (.aload_n 0, 1) := by decide +kernel
theorem dX9_passes_36 : decode cX9_passes 36 = .ok (.getfield 26, 3) := by decide +kernel
theorem dX9_passes_39 : decode cX9_passes 39 = .ok (.aload_n 0, 1) := by decide +kernel
theorem dX9_passes_40 : decode cX9_passes 40 = .ok (.getfield 19, 3) := by decide +kernel
theorem dX9_passes_43 : decode cX9_passes 43 = .ok (.getfield 113, 3) := by decide +kernel
theorem dX9_passes_46 : decode cX9_passes 46 = .ok (.invokevirtual 172, 3) := by decide +kernel
theorem dX9_passes_49 : decode cX9_passes 49 = .ok (.iconst 0, 1) := by decide +kernel
theorem dX9_passes_50 : decode cX9_passes 50 = .ok (.istore_n 2, 1) := by decide +kernel
theorem dX9_passes_51 : decode cX9_passes 51 = .ok (.iconst 0, 1) := by decide +kernel
theorem dX9_passes_52 : decode cX9_passes 52 = .ok (.istore_n 3, 1) := by decide +kernel
theorem dX9_passes_53 : decode cX9_passes 53 = .ok (.iload_n 3, 1) := by decide +kernel
theorem dX9_passes_54 : decode cX9_passes 54 = .ok (.iload_n 1, 1) := by decide +kernel
theorem dX9_passes_55 : decode cX9_passes 55 = .ok (.if_icmp .ge 19, 3) := by decide +kernel
theorem dX9_passes_58 : decode cX9_passes 58 = .ok (.iload_n 2, 1) := by decide +kernel
theorem dX9_passes_59 : decode cX9_passes 59 = .ok (.aload_n 0, 1) := by decide +kernel
theorem dX9_passes_60 : decode cX9_passes 60 = .ok (.getfield 19, 3) := by decide +kernel
theorem dX9_passes_63 : decode cX9_passes 63 = .ok (.invokevirtual 179, 3) := by decide +kernel
theorem dX9_passes_66 : decode cX9_passes 66 = .ok (.iadd, 1) := by decide +kernel
theorem dX9_passes_67 : decode cX9_passes 67 = .ok (.istore_n 2, 1) := by decide +kernel
theorem dX9_passes_68 : decode cX9_passes 68 = .ok (.iinc 3 1, 3) := by decide +kernel
theorem dX9_passes_71 : decode cX9_passes 71 = .ok (.goto (-18), 3) := by decide +kernel
theorem dX9_passes_74 : decode cX9_passes 74 = .ok (.iload_n 2, 1) := by decide +kernel
theorem dX9_passes_75 : decode cX9_passes 75 = .ok (.ireturn, 1) := by decide +kernel
theorem dX9_excuses_0 : decode cX9_excuses 0 = .ok (.aload_n 0, 1) := by decide +kernel
theorem dX9_excuses_1 : decode cX9_excuses 1 = .ok (.getfield 19, 3) := by decide +kernel
theorem dX9_excuses_4 : decode cX9_excuses 4 = .ok (.getfield 105, 3) := by decide +kernel
theorem dX9_excuses_7 : decode cX9_excuses 7 = .ok (.iload_n 1, 1) := by decide +kernel
theorem dX9_excuses_8 : decode cX9_excuses 8 = .ok (.invokevirtual 141, 3) := by decide +kernel
theorem dX9_excuses_11 : decode cX9_excuses 11 = .ok (.ifCond .eq 10, 3) := by decide +kernel
theorem dX9_excuses_14 : decode cX9_excuses 14 = .ok (.iload_n 2, 1) := by decide +kernel
theorem dX9_excuses_15 : decode cX9_excuses 15 = .ok (.invokestatic 182, 3) := by decide +kernel
theorem dX9_excuses_18 : decode cX9_excuses 18 = .ok (.ifCond .ne 5, 3) := by decide +kernel
theorem dX9_excuses_21 : decode cX9_excuses 21 = .ok (.iconst (-1), 1) := by decide +kernel
theorem dX9_excuses_22 : decode cX9_excuses 22 = .ok (.ireturn, 1) := by decide +kernel
theorem dX9_excuses_23 : decode cX9_excuses 23 = .ok (.aload_n 0, 1) := by decide +kernel
theorem dX9_excuses_24 : decode cX9_excuses 24 = .ok (.getfield 19, 3) := by decide +kernel
theorem dX9_excuses_27 : decode cX9_excuses 27 = .ok (.getfield 113, 3) := by decide +kernel
theorem dX9_excuses_30 : decode cX9_excuses 30 = .ok (.astore_n 3, 1) := by decide +kernel
theorem dX9_excuses_31 : decode cX9_excuses 31 = .ok (.aload_n 3, 1) := by decide +kernel
theorem dX9_excuses_32 : decode cX9_excuses 32 = .ok (.getfield 154, 3) := by decide +kernel
theorem dX9_excuses_35 : decode cX9_excuses 35 = .ok (.iload_n 1, 1) := by decide +kernel
theorem dX9_excuses_36 : decode cX9_excuses 36 = .ok (.invokestatic 134, 3) := by decide +kernel
theorem dX9_excuses_39 : decode cX9_excuses 39 = .ok (.iload_n 2, 1) := by decide +kernel
theorem dX9_excuses_40 : decode cX9_excuses 40 = .ok (.if_icmp .ne 6, 3) := by decide +kernel
theorem dX9_excuses_43 : decode cX9_excuses 43 = .ok (.bipush (-2), 2) := by decide +kernel
theorem dX9_excuses_45 : decode cX9_excuses 45 = .ok (.ireturn, 1) := by decide +kernel
theorem dX9_excuses_46 : decode cX9_excuses 46 = .ok (.aload_n 0, 1) := by decide +kernel
theorem dX9_excuses_47 : decode cX9_excuses 47 = .ok (.getfield 26, 3) := by decide +kernel
theorem dX9_excuses_50 : decode cX9_excuses 50 = .ok (.aload_n 3, 1) := by decide +kernel
theorem dX9_excuses_51 : decode cX9_excuses 51 = .ok (.invokevirtual 172, 3) := by decide +kernel
theorem dX9_excuses_54 : decode cX9_excuses 54 = .ok (.aload_n 3, 1) := by decide +kernel
theorem dX9_excuses_55 : decode cX9_excuses 55 = .ok (.dup, 1) := by decide +kernel
theorem dX9_excuses_56 : decode cX9_excuses 56 = .ok (.getfield 154, 3) := by decide +kernel
theorem dX9_excuses_59 : decode cX9_excuses 59 = .ok (.iconst 1, 1) := by decide +kernel
theorem dX9_excuses_60 : decode cX9_excuses 60 = .ok (.iload_n 1, 1) := by decide +kernel
theorem dX9_excuses_61 : decode cX9_excuses 61 = .ok (.ishl, 1) := by decide +kernel
theorem dX9_excuses_62 : decode cX9_excuses 62 = .ok (.ixor, 1) := by decide +kernel
theorem dX9_excuses_63 : decode cX9_excuses 63 = .ok (.putfield 154, 3) := by decide +kernel
theorem dX9_excuses_66 : decode cX9_excuses 66 = .ok (.aload_n 3, 1) := by decide +kernel
theorem dX9_excuses_67 : decode cX9_excuses 67 = .ok (.getfield 154, 3) := by decide +kernel
theorem dX9_excuses_70 : decode cX9_excuses 70 = .ok (.invokestatic 185, 3) := by decide +kernel
theorem dX9_excuses_73 : decode cX9_excuses 73 = .ok (.ireturn, 1) := by decide +kernel
theorem dX9_swaps_0 : decode cX9_swaps 0 = .ok (.aload_n 0, 1) := by decide +kernel
theorem dX9_swaps_1 : decode cX9_swaps 1 = .ok (.getfield 19, 3) := by decide +kernel
theorem dX9_swaps_4 : decode cX9_swaps 4 = .ok (.getfield 105, 3) := by decide +kernel
theorem dX9_swaps_7 : decode cX9_swaps 7 = .ok (.iload_n 1, 1) := by decide +kernel
theorem dX9_swaps_8 : decode cX9_swaps 8 = .ok (.invokevirtual 141, 3) := by decide +kernel
theorem dX9_swaps_11 : decode cX9_swaps 11 = .ok (.ifCond .eq 17, 3) := by decide +kernel
theorem dX9_swaps_14 : decode cX9_swaps 14 = .ok (.aload_n 0, 1) := by decide +kernel
theorem dX9_swaps_15 : decode cX9_swaps 15 = .ok (.getfield 19, 3) := by decide +kernel
theorem dX9_swaps_18 : decode cX9_swaps 18 = .ok (.getfield 105, 3) := by decide +kernel
theorem dX9_swaps_21 : decode cX9_swaps 21 = .ok (.iload_n 2, 1) := by decide +kernel
theorem dX9_swaps_22 : decode cX9_swaps 22 = .ok (.invokevirtual 141, 3) := by decide +kernel
theorem dX9_swaps_25 : decode cX9_swaps 25 = .ok (.ifCond .ne 5, 3) := by decide +kernel
theorem dX9_swaps_28 : decode cX9_swaps 28 = .ok (.iconst (-1), 1) := by decide +kernel
theorem dX9_swaps_29 : decode cX9_swaps 29 = .ok (.ireturn, 1) := by decide +kernel
theorem dX9_swaps_30 : decode cX9_swaps 30 = .ok (.aload_n 0, 1) := by decide +kernel
theorem dX9_swaps_31 : decode cX9_swaps 31 = .ok (.getfield 19, 3) := by decide +kernel
theorem dX9_swaps_34 : decode cX9_swaps 34 = .ok (.getfield 113, 3) := by decide +kernel
theorem dX9_swaps_37 : decode cX9_swaps 37 = .ok (.getfield 144, 3) := by decide +kernel
theorem dX9_swaps_40 : decode cX9_swaps 40 = .ok (.astore_n 3, 1) := by decide +kernel
theorem dX9_swaps_41 : decode cX9_swaps 41 = .ok (.aload_n 3, 1) := by decide +kernel
theorem dX9_swaps_42 : decode cX9_swaps 42 = .ok (.iload_n 1, 1) := by decide +kernel
theorem dX9_swaps_43 : decode cX9_swaps 43 = .ok (.iaload, 1) := by decide +kernel
theorem dX9_swaps_44 : decode cX9_swaps 44 = .ok (.aload_n 3, 1) := by decide +kernel
theorem dX9_swaps_45 : decode cX9_swaps 45 = .ok (.iload_n 2, 1) := by decide +kernel
theorem dX9_swaps_46 : decode cX9_swaps 46 = .ok (.iaload, 1) := by decide +kernel
theorem dX9_swaps_47 : decode cX9_swaps 47 = .ok (.if_icmp .ne 6, 3) := by decide +kernel
theorem dX9_swaps_50 : decode cX9_swaps 50 = .ok (.bipush (-2), 2) := by decide +kernel
theorem dX9_swaps_52 : decode cX9_swaps 52 = .ok (.ireturn, 1) := by decide +kernel
theorem dX9_swaps_53 : decode cX9_swaps 53 = .ok (.aload_n 0, 1) := by decide +kernel
theorem dX9_swaps_54 : decode cX9_swaps 54 = .ok (.getfield 26, 3) := by decide +kernel
theorem dX9_swaps_57 : decode cX9_swaps 57 = .ok (.aload_n 0, 1) := by decide +kernel
theorem dX9_swaps_58 : decode cX9_swaps 58 = .ok (.getfield 19, 3) := by decide +kernel
theorem dX9_swaps_61 : decode cX9_swaps 61 = .ok (.getfield 113, 3) := by decide +kernel
theorem dX9_swaps_64 : decode cX9_swaps 64 = .ok (.invokevirtual 172, 3) := by decide +kernel
theorem dX9_swaps_67 : decode cX9_swaps 67 = .ok (.aload_n 3, 1) := by decide +kernel
theorem dX9_swaps_68 : decode cX9_swaps 68 = .ok (.iload_n 1, 1) := by decide +kernel
theorem dX9_swaps_69 : decode cX9_swaps 69 = .ok (.iaload, 1) := by decide +kernel
theorem dX9_swaps_70 : decode cX9_swaps 70 = .ok (.istore 4, 2) := by decide +kernel
theorem dX9_swaps_72 : decode cX9_swaps 72 = .ok (.aload_n 3, 1) := by decide +kernel
theorem dX9_swaps_73 : decode cX9_swaps 73 = .ok (.iload_n 1, 1) := by decide +kernel
theorem dX9_swaps_74 : decode cX9_swaps 74 = .ok (.aload_n 3, 1) := by decide +kernel
theorem dX9_swaps_75 : decode cX9_swaps 75 = .ok (.iload_n 2, 1) := by decide +kernel
theorem dX9_swaps_76 : decode cX9_swaps 76 = .ok (.iaload, 1) := by decide +kernel
theorem dX9_swaps_77 : decode cX9_swaps 77 = .ok (.iastore, 1) := by decide +kernel
theorem dX9_swaps_78 : decode cX9_swaps 78 = .ok (.aload_n 3, 1) := by decide +kernel
theorem dX9_swaps_79 : decode cX9_swaps 79 = .ok (.iload_n 2, 1) := by decide +kernel
theorem dX9_swaps_80 : decode cX9_swaps 80 = .ok (.iload 4, 2) := by decide +kernel
theorem dX9_swaps_82 : decode cX9_swaps 82 = .ok (.iastore, 1) := by decide +kernel
theorem dX9_swaps_83 : decode cX9_swaps 83 = .ok (.aload_n 3, 1) := by decide +kernel
theorem dX9_swaps_84 : decode cX9_swaps 84 = .ok (.iload_n 1, 1) := by decide +kernel
theorem dX9_swaps_85 : decode cX9_swaps 85 = .ok (.iaload, 1) := by decide +kernel
theorem dX9_swaps_86 : decode cX9_swaps 86 = .ok (.ireturn, 1) := by decide +kernel
theorem dX9_undo_0 : decode cX9_undo 0 = .ok (.aload_n 0, 1) := by decide +kernel
theorem dX9_undo_1 : decode cX9_undo 1 = .ok (.getfield 26, 3) := by decide +kernel
theorem dX9_undo_4 : decode cX9_undo 4 = .ok (.getfield 166, 3) := by decide +kernel
theorem dX9_undo_7 : decode cX9_undo 7 = .ok (.ifCond .ne 6, 3) := by decide +kernel
theorem dX9_undo_10 : decode cX9_undo 10 = .ok (.bipush (-2), 2) := by decide +kernel
theorem dX9_undo_12 : decode cX9_undo 12 = .ok (.ireturn, 1) := by decide +kernel
theorem dX9_undo_13 : decode cX9_undo 13 = .ok (.aload_n 0, 1) := by decide +kernel
theorem dX9_undo_14 : decode cX9_undo 14 = .ok (.getfield 26, 3) := by decide +kernel
theorem dX9_undo_17 : decode cX9_undo 17 = .ok (.aload_n 0, 1) := by decide +kernel
theorem dX9_undo_18 : decode cX9_undo 18 = .ok (.getfield 19, 3) := by decide +kernel
theorem dX9_undo_21 : decode cX9_undo 21 = .ok (.getfield 113, 3) := by decide +kernel
theorem dX9_undo_24 : decode cX9_undo 24 = .ok (.invokevirtual 190, 3) := by decide +kernel
theorem dX9_undo_27 : decode cX9_undo 27 = .ok (.aload_n 0, 1) := by decide +kernel
theorem dX9_undo_28 : decode cX9_undo 28 = .ok (.getfield 26, 3) := by decide +kernel
theorem dX9_undo_31 : decode cX9_undo 31 = .ok (.getfield 166, 3) := by decide +kernel
theorem dX9_undo_34 : decode cX9_undo 34 = .ok (.ireturn, 1) := by decide +kernel
theorem dX9_rings_0 : decode cX9_rings 0 = .ok (.iload_n 1, 1) := by decide +kernel
theorem dX9_rings_1 : decode cX9_rings 1 = .ok (.aload_n 0, 1) := by decide +kernel
theorem dX9_rings_2 : decode cX9_rings 2 = .ok (.getfield 19, 3) := by decide +kernel
theorem dX9_rings_5 : decode cX9_rings 5 = .ok (.getfield 113, 3) := by decide +kernel
theorem dX9_rings_8 : decode cX9_rings 8 = .ok (.getfield 127, 3) := by decide +kernel
theorem dX9_rings_11 : decode cX9_rings 11 = .ok (.if_icmp .lt 10, 3) := by decide +kernel
theorem dX9_rings_14 : decode cX9_rings 14 = .ok (.iload_n 1, 1) := by decide +kernel
theorem dX9_rings_15 : decode cX9_rings 15 = .ok (.sipush 240, 3) := by decide +kernel
theorem dX9_rings_18 : decode cX9_rings 18 = .ok (.if_icmp .lt 5, 3) := by decide +kernel
theorem dX9_rings_21 : decode cX9_rings 21 = .ok (.iconst (-1), 1) := by decide +kernel
theorem dX9_rings_22 : decode cX9_rings 22 = .ok (.ireturn, 1) := by decide +kernel
theorem dX9_rings_23 : decode cX9_rings 23 = .ok (.aload_n 0, 1) := by decide +kernel
theorem dX9_rings_24 : decode cX9_rings 24 = .ok (.getfield 19, 3) := by decide +kernel
theorem dX9_rings_27 : decode cX9_rings 27 = .ok (.iload_n 1, 1) := by decide +kernel
theorem dX9_rings_28 : decode cX9_rings 28 = .ok (.invokevirtual 130, 3) := by decide +kernel
theorem dX9_rings_31 : decode cX9_rings 31 = .ok (.ireturn, 1) := by decide +kernel
theorem dX9_chord_0 : decode cX9_chord 0 = .ok (.aload_n 0, 1) := by decide +kernel
theorem dX9_chord_1 : decode cX9_chord 1 = .ok (.getfield 19, 3) := by decide +kernel
theorem dX9_chord_4 : decode cX9_chord 4 = .ok (.getfield 105, 3) := by decide +kernel
theorem dX9_chord_7 : decode cX9_chord 7 = .ok (.iload_n 1, 1) := by decide +kernel
theorem dX9_chord_8 : decode cX9_chord 8 = .ok (.invokevirtual 193, 3) := by decide +kernel
theorem dX9_chord_11 : decode cX9_chord 11 = .ok (.ifCond .eq 10, 3) := by decide +kernel
theorem dX9_chord_14 : decode cX9_chord 14 = .ok (.iload_n 2, 1) := by decide +kernel
theorem dX9_chord_15 : decode cX9_chord 15 = .ok (.invokestatic 182, 3) := by decide +kernel
theorem dX9_chord_18 : decode cX9_chord 18 = .ok (.ifCond .ne 5, 3) := by decide +kernel
theorem dX9_chord_21 : decode cX9_chord 21 = .ok (.iconst (-1), 1) := by decide +kernel
theorem dX9_chord_22 : decode cX9_chord 22 = .ok (.ireturn, 1) := by decide +kernel
theorem dX9_chord_23 : decode cX9_chord 23 = .ok (.iload_n 2, 1) := by decide +kernel
theorem dX9_chord_24 : decode cX9_chord 24 = .ok (.ifCond .ne 14, 3) := by decide +kernel
theorem dX9_chord_27 : decode cX9_chord 27 = .ok (.aload_n 0, 1) := by decide +kernel
theorem dX9_chord_28 : decode cX9_chord 28 = .ok (.getfield 19, 3) := by decide +kernel
theorem dX9_chord_31 : decode cX9_chord 31 = .ok (.iload_n 1, 1) := by decide +kernel
theorem dX9_chord_32 : decode cX9_chord 32 = .ok (.invokevirtual 196, 3) := by decide +kernel
theorem dX9_chord_35 : decode cX9_chord 35 = .ok (.goto 11, 3) := by decide +kernel
theorem dX9_chord_38 : decode cX9_chord 38 = .ok (.aload_n 0, 1) := by decide +kernel
theorem dX9_chord_39 : decode cX9_chord 39 = .ok (.getfield 19, 3) := by decide +kernel
theorem dX9_chord_42 : decode cX9_chord 42 = .ok (.iload_n 1, 1) := by decide +kernel
theorem dX9_chord_43 : decode cX9_chord 43 = .ok (.invokevirtual 199, 3) := by decide +kernel
theorem dX9_chord_46 : decode cX9_chord 46 = .ok (.ireturn, 1) := by decide +kernel
theorem dX9_silence_0 : decode cX9_silence 0 = .ok (.iload_n 1, 1) := by decide +kernel
theorem dX9_silence_1 : decode cX9_silence 1 = .ok (.ifCond .eq 17, 3) := by decide +kernel
theorem dX9_silence_4 : decode cX9_silence 4 = .ok (.aload_n 0, 1) := by decide +kernel
theorem dX9_silence_5 : decode cX9_silence 5 = .ok (.getfield 19, 3) := by decide +kernel
theorem dX9_silence_8 : decode cX9_silence 8 = .ok (.getfield 105, 3) := by decide +kernel
theorem dX9_silence_11 : decode cX9_silence 11 = .ok (.iload_n 1, 1) := by decide +kernel
theorem dX9_silence_12 : decode cX9_silence 12 = .ok (.invokevirtual 193, 3) := by decide +kernel
theorem dX9_silence_15 : decode cX9_silence 15 = .ok (.ifCond .ne 5, 3) := by decide +kernel
theorem dX9_silence_18 : decode cX9_silence 18 = .ok (.iconst (-1), 1) := by decide +kernel
theorem dX9_silence_19 : decode cX9_silence 19 = .ok (.ireturn, 1) := by decide +kernel
theorem dX9_silence_20 : decode cX9_silence 20 = .ok (.aload_n 0, 1) := by decide +kernel
theorem dX9_silence_21 : decode cX9_silence 21 = .ok (.getfield 47, 3) := by decide +kernel
theorem dX9_silence_24 : decode cX9_silence 24 = .ok (.aload_n 0, 1) := by decide +kernel
theorem dX9_silence_25 : decode cX9_silence 25 = .ok (.getfield 19, 3) := by decide +kernel
theorem dX9_silence_28 : decode cX9_silence 28 = .ok (.iload_n 1, 1) := by decide +kernel
theorem dX9_silence_29 : decode cX9_silence 29 = .ok (.invokevirtual 202, 3) := by decide +kernel
theorem dX9_silence_32 : decode cX9_silence 32 = .ok (.ireturn, 1) := by decide +kernel
theorem dX9_least_0 : decode cX9_least 0 = .ok (.aload_n 0, 1) := by decide +kernel
theorem dX9_least_1 : decode cX9_least 1 = .ok (.getfield 19, 3) := by decide +kernel
theorem dX9_least_4 : decode cX9_least 4 = .ok (.getfield 105, 3) := by decide +kernel
theorem dX9_least_7 : decode cX9_least 7 = .ok (.iload_n 1, 1) := by decide +kernel
theorem dX9_least_8 : decode cX9_least 8 = .ok (.invokevirtual 108, 3) := by decide +kernel
theorem dX9_least_11 : decode cX9_least 11 = .ok (.ifCond .eq 10, 3) := by decide +kernel
theorem dX9_least_14 : decode cX9_least 14 = .ok (.iload_n 2, 1) := by decide +kernel
theorem dX9_least_15 : decode cX9_least 15 = .ok (.invokestatic 182, 3) := by decide +kernel
theorem dX9_least_18 : decode cX9_least 18 = .ok (.ifCond .ne 5, 3) := by decide +kernel
theorem dX9_least_21 : decode cX9_least 21 = .ok (.iconst (-1), 1) := by decide +kernel
theorem dX9_least_22 : decode cX9_least 22 = .ok (.ireturn, 1) := by decide +kernel
theorem dX9_least_23 : decode cX9_least 23 = .ok (.aload_n 0, 1) := by decide +kernel
theorem dX9_least_24 : decode cX9_least 24 = .ok (.getfield 40, 3) := by decide +kernel
theorem dX9_least_27 : decode cX9_least 27 = .ok (.aload_n 0, 1) := by decide +kernel
theorem dX9_least_28 : decode cX9_least 28 = .ok (.getfield 19, 3) := by decide +kernel
theorem dX9_least_31 : decode cX9_least 31 = .ok (.iload_n 1, 1) := by decide +kernel
theorem dX9_least_32 : decode cX9_least 32 = .ok (.invokevirtual 206, 3) := by decide +kernel
theorem dX9_least_35 : decode cX9_least 35 = .ok (.iload_n 2, 1) := by decide +kernel
theorem dX9_least_36 : decode cX9_least 36 = .ok (.ifCond .ne 21, 3) := by decide +kernel
theorem dX9_least_39 : decode cX9_least 39 = .ok (.aload_n 0, 1) := by decide +kernel
theorem dX9_least_40 : decode cX9_least 40 = .ok (.getfield 40, 3) := by decide +kernel
theorem dX9_least_43 : decode cX9_least 43 = .ok (.aload_n 0, 1) := by decide +kernel
theorem dX9_least_44 : decode cX9_least 44 = .ok (.getfield 19, 3) := by decide +kernel
theorem dX9_least_47 : decode cX9_least 47 = .ok (.getfield 113, 3) := by decide +kernel
theorem dX9_least_50 : decode cX9_least 50 = .ok (.iload_n 1, 1) := by decide +kernel
theorem dX9_least_51 : decode cX9_least 51 = .ok (.invokevirtual 210, 3) := by decide +kernel
theorem dX9_least_54 : decode cX9_least 54 = .ok (.goto 15, 3) := by decide +kernel
theorem dX9_least_57 : decode cX9_least 57 = .ok (.aload_n 0, 1) := by decide +kernel
theorem dX9_least_58 : decode cX9_least 58 = .ok (.getfield 40, 3) := by decide +kernel
theorem dX9_least_61 : decode cX9_least 61 = .ok (.aload_n 0, 1) := by decide +kernel
theorem dX9_least_62 : decode cX9_least 62 = .ok (.getfield 19, 3) := by decide +kernel
theorem dX9_least_65 : decode cX9_least 65 = .ok (.iload_n 1, 1) := by decide +kernel
theorem dX9_least_66 : decode cX9_least 66 = .ok (.invokevirtual 214, 3) := by decide +kernel
theorem dX9_least_69 : decode cX9_least 69 = .ok (.ireturn, 1) := by decide +kernel
theorem dX9_hears_0 : decode cX9_hears 0 = .ok (.aload_n 0, 1) := by decide +kernel
theorem dX9_hears_1 : decode cX9_hears 1 = .ok (.getfield 19, 3) := by decide +kernel
theorem dX9_hears_4 : decode cX9_hears 4 = .ok (.getfield 105, 3) := by decide +kernel
theorem dX9_hears_7 : decode cX9_hears 7 = .ok (.iload_n 1, 1) := by decide +kernel
theorem dX9_hears_8 : decode cX9_hears 8 = .ok (.invokevirtual 108, 3) := by decide +kernel
theorem dX9_hears_11 : decode cX9_hears 11 = .ok (.ifCond .eq 17, 3) := by decide +kernel
theorem dX9_hears_14 : decode cX9_hears 14 = .ok (.iload_n 2, 1) := by decide +kernel
theorem dX9_hears_15 : decode cX9_hears 15 = .ok (.invokestatic 217, 3) := by decide +kernel
theorem dX9_hears_18 : decode cX9_hears 18 = .ok (.ifCond .eq 10, 3) := by decide +kernel
theorem dX9_hears_21 : decode cX9_hears 21 = .ok (.iload_n 3, 1) := by decide +kernel
theorem dX9_hears_22 : decode cX9_hears 22 = .ok (.invokestatic 182, 3) := by decide +kernel
theorem dX9_hears_25 : decode cX9_hears 25 = .ok (.ifCond .ne 5, 3) := by decide +kernel
theorem dX9_hears_28 : decode cX9_hears 28 = .ok (.iconst (-1), 1) := by decide +kernel
theorem dX9_hears_29 : decode cX9_hears 29 = .ok (.ireturn, 1) := by decide +kernel
theorem dX9_hears_30 : decode cX9_hears 30 = .ok (.aload_n 0, 1) := by decide +kernel
theorem dX9_hears_31 : decode cX9_hears 31 = .ok (.getfield 33, 3) := by decide +kernel
theorem dX9_hears_34 : decode cX9_hears 34 = .ok (.iload_n 1, 1) := by decide +kernel
theorem dX9_hears_35 : decode cX9_hears 35 = .ok (.iload_n 2, 1) := by decide +kernel
theorem dX9_hears_36 : decode cX9_hears 36 = .ok (.iload_n 3, 1) := by decide +kernel
theorem dX9_hears_37 : decode cX9_hears 37 = .ok (.invokevirtual 220, 3) := by decide +kernel
theorem dX9_hears_40 : decode cX9_hears 40 = .ok (.ifCond .eq 13, 3) := by decide +kernel
theorem dX9_hears_43 : decode cX9_hears 43 = .ok (.aload_n 0, 1) := by decide +kernel
theorem dX9_hears_44 : decode cX9_hears 44 = .ok (.getfield 33, 3) := by decide +kernel
theorem dX9_hears_47 : decode cX9_hears 47 = .ok (.getfield 224, 3) := by decide +kernel
theorem dX9_hears_50 : decode cX9_hears 50 = .ok (.goto 5, 3) := by decide +kernel
theorem dX9_hears_53 : decode cX9_hears 53 = .ok (.bipush (-3), 2) := by decide +kernel
theorem dX9_hears_55 : decode cX9_hears 55 = .ok (.ireturn, 1) := by decide +kernel
theorem dX9_forget_0 : decode cX9_forget 0 = .ok (.aload_n 0, 1) := by decide +kernel
theorem dX9_forget_1 : decode cX9_forget 1 = .ok (.getfield 33, 3) := by decide +kernel
theorem dX9_forget_4 : decode cX9_forget 4 = .ok (.invokevirtual 102, 3) := by decide +kernel
theorem dX9_forget_7 : decode cX9_forget 7 = .ok (.ireturn, 1) := by decide +kernel
theorem dX9_can_0 : decode cX9_can 0 = .ok (.aload_n 0, 1) := by decide +kernel
theorem dX9_can_1 : decode cX9_can 1 = .ok (.getfield 19, 3) := by decide +kernel
theorem dX9_can_4 : decode cX9_can 4 = .ok (.getfield 105, 3) := by decide +kernel
theorem dX9_can_7 : decode cX9_can 7 = .ok (.iload_n 1, 1) := by decide +kernel
theorem dX9_can_8 : decode cX9_can 8 = .ok (.invokevirtual 108, 3) := by decide +kernel
theorem dX9_can_11 : decode cX9_can 11 = .ok (.ifCond .eq 18, 3) := by decide +kernel
theorem dX9_can_14 : decode cX9_can 14 = .ok (.aload_n 0, 1) := by decide +kernel
theorem dX9_can_15 : decode cX9_can 15 = .ok (.getfield 33, 3) := by decide +kernel
theorem dX9_can_18 : decode cX9_can 18 = .ok (.aload_n 0, 1) := by decide +kernel
theorem dX9_can_19 : decode cX9_can 19 = .ok (.getfield 19, 3) := by decide +kernel
theorem dX9_can_22 : decode cX9_can 22 = .ok (.iload_n 1, 1) := by decide +kernel
theorem dX9_can_23 : decode cX9_can 23 = .ok (.invokevirtual 227, 3) := by decide +kernel
theorem dX9_can_26 : decode cX9_can 26 = .ok (.goto 4, 3) := by decide +kernel
theorem dX9_can_29 : decode cX9_can 29 = .ok (.iconst (-1), 1) := by decide +kernel
theorem dX9_can_30 : decode cX9_can 30 = .ok (.ireturn, 1) := by decide +kernel
theorem dX9_tells_0 : decode cX9_tells 0 = .ok (.aload_n 0, 1) := by decide +kernel
theorem dX9_tells_1 : decode cX9_tells 1 = .ok (.getfield 19, 3) := by decide +kernel
theorem dX9_tells_4 : decode cX9_tells 4 = .ok (.getfield 105, 3) := by decide +kernel
theorem dX9_tells_7 : decode cX9_tells 7 = .ok (.iload_n 1, 1) := by decide +kernel
theorem dX9_tells_8 : decode cX9_tells 8 = .ok (.invokevirtual 108, 3) := by decide +kernel
theorem dX9_tells_11 : decode cX9_tells 11 = .ok (.ifCond .eq 31, 3) := by decide +kernel
theorem dX9_tells_14 : decode cX9_tells 14 = .ok (.aload_n 0, 1) := by decide +kernel
theorem dX9_tells_15 : decode cX9_tells 15 = .ok (.getfield 19, 3) := by decide +kernel
theorem dX9_tells_18 : decode cX9_tells 18 = .ok (.getfield 105, 3) := by decide +kernel
theorem dX9_tells_21 : decode cX9_tells 21 = .ok (.iload_n 2, 1) := by decide +kernel
theorem dX9_tells_22 : decode cX9_tells 22 = .ok (.invokevirtual 169, 3) := by decide +kernel
theorem dX9_tells_25 : decode cX9_tells 25 = .ok (.ifCond .eq 17, 3) := by decide +kernel
theorem dX9_tells_28 : decode cX9_tells 28 = .ok (.aload_n 0, 1) := by decide +kernel
theorem dX9_tells_29 : decode cX9_tells 29 = .ok (.getfield 19, 3) := by decide +kernel
theorem dX9_tells_32 : decode cX9_tells 32 = .ok (.getfield 105, 3) := by decide +kernel
theorem dX9_tells_35 : decode cX9_tells 35 = .ok (.iload_n 3, 1) := by decide +kernel
theorem dX9_tells_36 : decode cX9_tells 36 = .ok (.invokevirtual 169, 3) := by decide +kernel
theorem dX9_tells_39 : decode cX9_tells 39 = .ok (.ifCond .ne 5, 3) := by decide +kernel
theorem dX9_tells_42 : decode cX9_tells 42 = .ok (.iconst (-1), 1) := by decide +kernel
theorem dX9_tells_43 : decode cX9_tells 43 = .ok (.ireturn, 1) := by decide +kernel
theorem dX9_tells_44 : decode cX9_tells 44 = .ok (.aload_n 0, 1) := by decide +kernel
theorem dX9_tells_45 : decode cX9_tells 45 = .ok (.getfield 19, 3) := by decide +kernel
theorem dX9_tells_48 : decode cX9_tells 48 = .ok (.iload_n 1, 1) := by decide +kernel
theorem dX9_tells_49 : decode cX9_tells 49 = .ok (.iload_n 2, 1) := by decide +kernel
theorem dX9_tells_50 : decode cX9_tells 50 = .ok (.iload_n 3, 1) := by decide +kernel
theorem dX9_tells_51 : decode cX9_tells 51 = .ok (.invokevirtual 230, 3) := by decide +kernel
theorem dX9_tells_54 : decode cX9_tells 54 = .ok (.ireturn, 1) := by decide +kernel
theorem dX9_odds_0 : decode cX9_odds 0 = .ok (.aload_n 0, 1) := by decide +kernel
theorem dX9_odds_1 : decode cX9_odds 1 = .ok (.getfield 19, 3) := by decide +kernel
theorem dX9_odds_4 : decode cX9_odds 4 = .ok (.getfield 105, 3) := by decide +kernel
theorem dX9_odds_7 : decode cX9_odds 7 = .ok (.iload_n 1, 1) := by decide +kernel
theorem dX9_odds_8 : decode cX9_odds 8 = .ok (.invokevirtual 108, 3) := by decide +kernel
theorem dX9_odds_11 : decode cX9_odds 11 = .ok (.ifCond .eq 28, 3) := by decide +kernel
theorem dX9_odds_14 : decode cX9_odds 14 = .ok (.iload_n 2, 1) := by decide +kernel
theorem dX9_odds_15 : decode cX9_odds 15 = .ok (.invokestatic 217, 3) := by decide +kernel
theorem dX9_odds_18 : decode cX9_odds 18 = .ok (.ifCond .eq 21, 3) := by decide +kernel
theorem dX9_odds_21 : decode cX9_odds 21 = .ok (.iload_n 3, 1) := by decide +kernel
theorem dX9_odds_22 : decode cX9_odds 22 = .ok (.ifCond .lt 17, 3) := by decide +kernel
theorem dX9_odds_25 : decode cX9_odds 25 = .ok (.iload_n 3, 1) := by decide +kernel
theorem dX9_odds_26 : decode cX9_odds 26 = .ok (.bipush 10, 2) := by decide +kernel
theorem dX9_odds_28 : decode cX9_odds 28 = .ok (.if_icmp .gt 11, 3) := by decide +kernel
theorem dX9_odds_31 : decode cX9_odds 31 = .ok (.iload 4, 2) := by decide +kernel
theorem dX9_odds_33 : decode cX9_odds 33 = .ok (.invokestatic 182, 3) := by decide +kernel
theorem dX9_odds_36 : decode cX9_odds 36 = .ok (.ifCond .ne 5, 3) := by decide +kernel
theorem dX9_odds_39 : decode cX9_odds 39 = .ok (.iconst (-1), 1) := by decide +kernel
theorem dX9_odds_40 : decode cX9_odds 40 = .ok (.ireturn, 1) := by decide +kernel
theorem dX9_odds_41 : decode cX9_odds 41 = .ok (.aload_n 0, 1) := by decide +kernel
theorem dX9_odds_42 : decode cX9_odds 42 = .ok (.getfield 19, 3) := by decide +kernel
theorem dX9_odds_45 : decode cX9_odds 45 = .ok (.iload_n 1, 1) := by decide +kernel
theorem dX9_odds_46 : decode cX9_odds 46 = .ok (.iload_n 2, 1) := by decide +kernel
theorem dX9_odds_47 : decode cX9_odds 47 = .ok (.invokevirtual 234, 3) := by decide +kernel
theorem dX9_odds_50 : decode cX9_odds 50 = .ok (.istore 5, 2) := by decide +kernel
theorem dX9_odds_52 : decode cX9_odds 52 = .ok (.bipush 10, 2) := by decide +kernel
theorem dX9_odds_54 : decode cX9_odds 54 = .ok (.iload 5, 2) := by decide +kernel
theorem dX9_odds_56 : decode cX9_odds 56 = .ok (.invokestatic 237, 3) := by decide +kernel
theorem dX9_odds_59 : decode cX9_odds 59 = .ok (.istore 6, 2) := by decide +kernel
theorem dX9_odds_61 : decode cX9_odds 61 = .ok (.iload 6, 2) := by decide +kernel
theorem dX9_odds_63 : decode cX9_odds 63 = .ok (.iload_n 3, 1) := by decide +kernel
theorem dX9_odds_64 : decode cX9_odds 64 = .ok (.iload 5, 2) := by decide +kernel
theorem dX9_odds_66 : decode cX9_odds 66 = .ok (.invokestatic 237, 3) := by decide +kernel
theorem dX9_odds_69 : decode cX9_odds 69 = .ok (.isub, 1) := by decide +kernel
theorem dX9_odds_70 : decode cX9_odds 70 = .ok (.istore 7, 2) := by decide +kernel
theorem dX9_odds_72 : decode cX9_odds 72 = .ok (.iload 6, 2) := by decide +kernel
theorem dX9_odds_74 : decode cX9_odds 74 = .ok (.iload 7, 2) := by decide +kernel
theorem dX9_odds_76 : decode cX9_odds 76 = .ok (.invokestatic 240, 3) := by decide +kernel
theorem dX9_odds_79 : decode cX9_odds 79 = .ok (.istore 8, 2) := by decide +kernel
theorem dX9_odds_81 : decode cX9_odds 81 = .ok (.iload 4, 2) := by decide +kernel
theorem dX9_odds_83 : decode cX9_odds 83 = .ok (.ifCond .ne 8, 3) := by decide +kernel
theorem dX9_odds_86 : decode cX9_odds 86 = .ok (.iload 7, 2) := by decide +kernel
theorem dX9_odds_88 : decode cX9_odds 88 = .ok (.goto 5, 3) := by decide +kernel
theorem dX9_odds_91 : decode cX9_odds 91 = .ok (.iload 6, 2) := by decide +kernel
theorem dX9_odds_93 : decode cX9_odds 93 = .ok (.iload 8, 2) := by decide +kernel
theorem dX9_odds_95 : decode cX9_odds 95 = .ok (.idiv, 1) := by decide +kernel
theorem dX9_odds_96 : decode cX9_odds 96 = .ok (.ireturn, 1) := by decide +kernel
theorem dX9_rate_0 : decode cX9_rate 0 = .ok (.iload_n 1, 1) := by decide +kernel
theorem dX9_rate_1 : decode cX9_rate 1 = .ok (.ifCond .lt 23, 3) := by decide +kernel
theorem dX9_rate_4 : decode cX9_rate 4 = .ok (.iload_n 1, 1) := by decide +kernel
theorem dX9_rate_5 : decode cX9_rate 5 = .ok (.bipush 6, 2) := by decide +kernel
theorem dX9_rate_7 : decode cX9_rate 7 = .ok (.if_icmp .ge 17, 3) := by decide +kernel
theorem dX9_rate_10 : decode cX9_rate 10 = .ok (.aload_n 0, 1) := by decide +kernel
theorem dX9_rate_11 : decode cX9_rate 11 = .ok (.getfield 19, 3) := by decide +kernel
theorem dX9_rate_14 : decode cX9_rate 14 = .ok (.getfield 105, 3) := by decide +kernel
theorem dX9_rate_17 : decode cX9_rate 17 = .ok (.iload_n 2, 1) := by decide +kernel
theorem dX9_rate_18 : decode cX9_rate 18 = .ok (.invokevirtual 141, 3) := by decide +kernel
theorem dX9_rate_21 : decode cX9_rate 21 = .ok (.ifCond .ne 6, 3) := by decide +kernel
theorem dX9_rate_24 : decode cX9_rate 24 = .ok (.ldc 243, 2) := by decide +kernel
theorem dX9_rate_26 : decode cX9_rate 26 = .ok (.ireturn, 1) := by decide +kernel
theorem dX9_rate_27 : decode cX9_rate 27 = .ok (.aload_n 0, 1) := by decide +kernel
theorem dX9_rate_28 : decode cX9_rate 28 = .ok (.getfield 54, 3) := by decide +kernel
theorem dX9_rate_31 : decode cX9_rate 31 = .ok (.iload_n 1, 1) := by decide +kernel
theorem dX9_rate_32 : decode cX9_rate 32 = .ok (.aload_n 0, 1) := by decide +kernel
theorem dX9_rate_33 : decode cX9_rate 33 = .ok (.getfield 19, 3) := by decide +kernel
theorem dX9_rate_36 : decode cX9_rate 36 = .ok (.iload_n 2, 1) := by decide +kernel
theorem dX9_rate_37 : decode cX9_rate 37 = .ok (.invokevirtual 244, 3) := by decide +kernel
theorem dX9_rate_40 : decode cX9_rate 40 = .ok (.ireturn, 1) := by decide +kernel
theorem dX9_keep_0 : decode cX9_keep 0 = .ok (.iload_n 1, 1) := by decide +kernel
theorem dX9_keep_1 : decode cX9_keep 1 = .ok (.invokestatic 248, 3) := by decide +kernel
theorem dX9_keep_4 : decode cX9_keep 4 = .ok (.ifCond .ne 5, 3) := by decide +kernel
theorem dX9_keep_7 : decode cX9_keep 7 = .ok (.iconst (-1), 1) := by decide +kernel
theorem dX9_keep_8 : decode cX9_keep 8 = .ok (.ireturn, 1) := by decide +kernel
theorem dX9_keep_9 : decode cX9_keep 9 = .ok (.aload_n 0, 1) := by decide +kernel
theorem dX9_keep_10 : decode cX9_keep 10 = .ok (.getfield 60, 3) := by decide +kernel
theorem dX9_keep_13 : decode cX9_keep 13 = .ok (.iload_n 1, 1) := by decide +kernel
theorem dX9_keep_14 : decode cX9_keep 14 = .ok (.aaload, 1) := by decide +kernel
theorem dX9_keep_15 : decode cX9_keep 15 = .ok (.aload_n 0, 1) := by decide +kernel
theorem dX9_keep_16 : decode cX9_keep 16 = .ok (.getfield 19, 3) := by decide +kernel
theorem dX9_keep_19 : decode cX9_keep 19 = .ok (.getfield 113, 3) := by decide +kernel
theorem dX9_keep_22 : decode cX9_keep 22 = .ok (.invokevirtual 251, 3) := by decide +kernel
theorem dX9_keep_25 : decode cX9_keep 25 = .ok (.aload_n 0, 1) := by decide +kernel
theorem dX9_keep_26 : decode cX9_keep 26 = .ok (.getfield 65, 3) := by decide +kernel
theorem dX9_keep_29 : decode cX9_keep 29 = .ok (.iload_n 1, 1) := by decide +kernel
theorem dX9_keep_30 : decode cX9_keep 30 = .ok (.iconst 1, 1) := by decide +kernel
theorem dX9_keep_31 : decode cX9_keep 31 = .ok (.bastore, 1) := by decide +kernel
theorem dX9_keep_32 : decode cX9_keep 32 = .ok (.aload_n 0, 1) := by decide +kernel
theorem dX9_keep_33 : decode cX9_keep 33 = .ok (.getfield 19, 3) := by decide +kernel
theorem dX9_keep_36 : decode cX9_keep 36 = .ok (.getfield 113, 3) := by decide +kernel
theorem dX9_keep_39 : decode cX9_keep 39 = .ok (.getfield 127, 3) := by decide +kernel
theorem dX9_keep_42 : decode cX9_keep 42 = .ok (.ireturn, 1) := by decide +kernel
theorem dX9_back_0 : decode cX9_back 0 = .ok (.iload_n 1, 1) := by decide +kernel
theorem dX9_back_1 : decode cX9_back 1 = .ok (.invokestatic 248, 3) := by decide +kernel
theorem dX9_back_4 : decode cX9_back 4 = .ok (.ifCond .ne 5, 3) := by decide +kernel
theorem dX9_back_7 : decode cX9_back 7 = .ok (.iconst (-1), 1) := by decide +kernel
theorem dX9_back_8 : decode cX9_back 8 = .ok (.ireturn, 1) := by decide +kernel
theorem dX9_back_9 : decode cX9_back 9 = .ok (.aload_n 0, 1) := by decide +kernel
theorem dX9_back_10 : decode cX9_back 10 = .ok (.getfield 65, 3) := by decide +kernel
theorem dX9_back_13 : decode cX9_back 13 = .ok (.iload_n 1, 1) := by decide +kernel
theorem dX9_back_14 : decode cX9_back 14 = .ok (.baload, 1) := by decide +kernel
theorem dX9_back_15 : decode cX9_back 15 = .ok (.ifCond .ne 6, 3) := by decide +kernel
theorem dX9_back_18 : decode cX9_back 18 = .ok (.bipush (-2), 2) := by decide +kernel
theorem dX9_back_20 : decode cX9_back 20 = .ok (.ireturn, 1) := by decide +kernel
theorem dX9_back_21 : decode cX9_back 21 = .ok (.aload_n 0, 1) := by decide +kernel
theorem dX9_back_22 : decode cX9_back 22 = .ok (.getfield 19, 3) := by decide +kernel
theorem dX9_back_25 : decode cX9_back 25 = .ok (.getfield 113, 3) := by decide +kernel
theorem dX9_back_28 : decode cX9_back 28 = .ok (.aload_n 0, 1) := by decide +kernel
theorem dX9_back_29 : decode cX9_back 29 = .ok (.getfield 60, 3) := by decide +kernel
theorem dX9_back_32 : decode cX9_back 32 = .ok (.iload_n 1, 1) := by decide +kernel
theorem dX9_back_33 : decode cX9_back 33 = .ok (.aaload, 1) := by decide +kernel
theorem dX9_back_34 : decode cX9_back 34 = .ok (.invokevirtual 251, 3) := by decide +kernel
theorem dX9_back_37 : decode cX9_back 37 = .ok (.aload_n 0, 1) := by decide +kernel
theorem dX9_back_38 : decode cX9_back 38 = .ok (.getfield 26, 3) := by decide +kernel
theorem dX9_back_41 : decode cX9_back 41 = .ok (.invokevirtual 99, 3) := by decide +kernel
theorem dX9_back_44 : decode cX9_back 44 = .ok (.aload_n 0, 1) := by decide +kernel
theorem dX9_back_45 : decode cX9_back 45 = .ok (.getfield 19, 3) := by decide +kernel
theorem dX9_back_48 : decode cX9_back 48 = .ok (.getfield 113, 3) := by decide +kernel
theorem dX9_back_51 : decode cX9_back 51 = .ok (.getfield 127, 3) := by decide +kernel
theorem dX9_back_54 : decode cX9_back 54 = .ok (.ireturn, 1) := by decide +kernel
theorem dX9_count_0 : decode cX9_count 0 = .ok (.iload_n 1, 1) := by decide +kernel
theorem dX9_count_1 : decode cX9_count 1 = .ok (.tableswitch 114 0 6 #[43, 54, 65, 76, 87, 98, 106], 43) := by decide +kernel
theorem dX9_count_44 : decode cX9_count 44 = .ok (.aload_n 0, 1) := by decide +kernel
theorem dX9_count_45 : decode cX9_count 45 = .ok (.getfield 19, 3) := by decide +kernel
theorem dX9_count_48 : decode cX9_count 48 = .ok (.getfield 105, 3) := by decide +kernel
theorem dX9_count_51 : decode cX9_count 51 = .ok (.getfield 254, 3) := by decide +kernel
theorem dX9_count_54 : decode cX9_count 54 = .ok (.ireturn, 1) := by decide +kernel
theorem dX9_count_55 : decode cX9_count 55 = .ok (.aload_n 0, 1) := by decide +kernel
theorem dX9_count_56 : decode cX9_count 56 = .ok (.getfield 19, 3) := by decide +kernel
theorem dX9_count_59 : decode cX9_count 59 = .ok (.getfield 105, 3) := by decide +kernel
theorem dX9_count_62 : decode cX9_count 62 = .ok (.getfield 257, 3) := by decide +kernel
theorem dX9_count_65 : decode cX9_count 65 = .ok (.ireturn, 1) := by decide +kernel
theorem dX9_count_66 : decode cX9_count 66 = .ok (.aload_n 0, 1) := by decide +kernel
theorem dX9_count_67 : decode cX9_count 67 = .ok (.getfield 19, 3) := by decide +kernel
theorem dX9_count_70 : decode cX9_count 70 = .ok (.getfield 105, 3) := by decide +kernel
theorem dX9_count_73 : decode cX9_count 73 = .ok (.getfield 260, 3) := by decide +kernel
theorem dX9_count_76 : decode cX9_count 76 = .ok (.ireturn, 1) := by decide +kernel
theorem dX9_count_77 : decode cX9_count 77 = .ok (.aload_n 0, 1) := by decide +kernel
theorem dX9_count_78 : decode cX9_count 78 = .ok (.getfield 19, 3) := by decide +kernel
theorem dX9_count_81 : decode cX9_count 81 = .ok (.getfield 105, 3) := by decide +kernel
theorem dX9_count_84 : decode cX9_count 84 = .ok (.getfield 263, 3) := by decide +kernel
theorem dX9_count_87 : decode cX9_count 87 = .ok (.ireturn, 1) := by decide +kernel
theorem dX9_count_88 : decode cX9_count 88 = .ok (.aload_n 0, 1) := by decide +kernel
theorem dX9_count_89 : decode cX9_count 89 = .ok (.getfield 19, 3) := by decide +kernel
theorem dX9_count_92 : decode cX9_count 92 = .ok (.getfield 105, 3) := by decide +kernel
theorem dX9_count_95 : decode cX9_count 95 = .ok (.getfield 266, 3) := by decide +kernel
theorem dX9_count_98 : decode cX9_count 98 = .ok (.ireturn, 1) := by decide +kernel
theorem dX9_count_99 : decode cX9_count 99 = .ok (.aload_n 0, 1) := by decide +kernel
theorem dX9_count_100 : decode cX9_count 100 = .ok (.getfield 33, 3) := by decide +kernel
theorem dX9_count_103 : decode cX9_count 103 = .ok (.getfield 224, 3) := by decide +kernel
theorem dX9_count_106 : decode cX9_count 106 = .ok (.ireturn, 1) := by decide +kernel
theorem dX9_count_107 : decode cX9_count 107 = .ok (.aload_n 0, 1) := by decide +kernel
theorem dX9_count_108 : decode cX9_count 108 = .ok (.getfield 10, 3) := by decide +kernel
theorem dX9_count_111 : decode cX9_count 111 = .ok (.getfield 73, 3) := by decide +kernel
theorem dX9_count_114 : decode cX9_count 114 = .ok (.ireturn, 1) := by decide +kernel
theorem dX9_count_115 : decode cX9_count 115 = .ok (.iconst (-1), 1) := by decide +kernel
theorem dX9_count_116 : decode cX9_count 116 = .ok (.ireturn, 1) := by decide +kernel
theorem dX9_trace_0 : decode cX9_trace 0 = .ok (.aload_n 0, 1) := by decide +kernel
theorem dX9_trace_1 : decode cX9_trace 1 = .ok (.getfield 54, 3) := by decide +kernel
theorem dX9_trace_4 : decode cX9_trace 4 = .ok (.getfield 269, 3) := by decide +kernel
theorem dX9_trace_7 : decode cX9_trace 7 = .ok (.lreturn, 1) := by decide +kernel
theorem dX9_bit_0 : decode cX9_bit 0 = .ok (.iload_n 0, 1) := by decide +kernel
theorem dX9_bit_1 : decode cX9_bit 1 = .ok (.iload_n 1, 1) := by decide +kernel
theorem dX9_bit_2 : decode cX9_bit 2 = .ok (.ishr, 1) := by decide +kernel
theorem dX9_bit_3 : decode cX9_bit 3 = .ok (.iconst 1, 1) := by decide +kernel
theorem dX9_bit_4 : decode cX9_bit 4 = .ok (.iand, 1) := by decide +kernel
theorem dX9_bit_5 : decode cX9_bit 5 = .ok (.ireturn, 1) := by decide +kernel
theorem dX9_isBit_0 : decode cX9_isBit 0 = .ok (.iload_n 0, 1) := by decide +kernel
theorem dX9_isBit_1 : decode cX9_isBit 1 = .ok (.ifCond .eq 8, 3) := by decide +kernel
theorem dX9_isBit_4 : decode cX9_isBit 4 = .ok (.iload_n 0, 1) := by decide +kernel
theorem dX9_isBit_5 : decode cX9_isBit 5 = .ok (.iconst 1, 1) := by decide +kernel
theorem dX9_isBit_6 : decode cX9_isBit 6 = .ok (.if_icmp .ne 7, 3) := by decide +kernel
theorem dX9_isBit_9 : decode cX9_isBit 9 = .ok (.iconst 1, 1) := by decide +kernel
theorem dX9_isBit_10 : decode cX9_isBit 10 = .ok (.goto 4, 3) := by decide +kernel
theorem dX9_isBit_13 : decode cX9_isBit 13 = .ok (.iconst 0, 1) := by decide +kernel
theorem dX9_isBit_14 : decode cX9_isBit 14 = .ok (.ireturn, 1) := by decide +kernel
theorem dX9_isMinute_0 : decode cX9_isMinute 0 = .ok (.iload_n 0, 1) := by decide +kernel
theorem dX9_isMinute_1 : decode cX9_isMinute 1 = .ok (.ifCond .lt 14, 3) := by decide +kernel
theorem dX9_isMinute_4 : decode cX9_isMinute 4 = .ok (.iload_n 0, 1) := by decide +kernel
theorem dX9_isMinute_5 : decode cX9_isMinute 5 = .ok (.sipush 240, 3) := by decide +kernel
theorem dX9_isMinute_8 : decode cX9_isMinute 8 = .ok (.if_icmp .ge 7, 3) := by decide +kernel
theorem dX9_isMinute_11 : decode cX9_isMinute 11 = .ok (.iconst 1, 1) := by decide +kernel
theorem dX9_isMinute_12 : decode cX9_isMinute 12 = .ok (.goto 4, 3) := by decide +kernel
theorem dX9_isMinute_15 : decode cX9_isMinute 15 = .ok (.iconst 0, 1) := by decide +kernel
theorem dX9_isMinute_16 : decode cX9_isMinute 16 = .ok (.ireturn, 1) := by decide +kernel
theorem dX9_isImage_0 : decode cX9_isImage 0 = .ok (.iload_n 0, 1) := by decide +kernel
theorem dX9_isImage_1 : decode cX9_isImage 1 = .ok (.ifCond .lt 12, 3) := by decide +kernel
theorem dX9_isImage_4 : decode cX9_isImage 4 = .ok (.iload_n 0, 1) := by decide +kernel
theorem dX9_isImage_5 : decode cX9_isImage 5 = .ok (.iconst 2, 1) := by decide +kernel
theorem dX9_isImage_6 : decode cX9_isImage 6 = .ok (.if_icmp .ge 7, 3) := by decide +kernel
theorem dX9_isImage_9 : decode cX9_isImage 9 = .ok (.iconst 1, 1) := by decide +kernel
theorem dX9_isImage_10 : decode cX9_isImage 10 = .ok (.goto 4, 3) := by decide +kernel
theorem dX9_isImage_13 : decode cX9_isImage 13 = .ok (.iconst 0, 1) := by decide +kernel
theorem dX9_isImage_14 : decode cX9_isImage 14 = .ok (.ireturn, 1) := by decide +kernel
theorem dX9_power_0 : decode cX9_power 0 = .ok (.iconst 1, 1) := by decide +kernel
theorem dX9_power_1 : decode cX9_power 1 = .ok (.istore_n 2, 1) := by decide +kernel
theorem dX9_power_2 : decode cX9_power 2 = .ok (.iconst 0, 1) := by decide +kernel
theorem dX9_power_3 : decode cX9_power 3 = .ok (.istore_n 3, 1) := by decide +kernel
theorem dX9_power_4 : decode cX9_power 4 = .ok (.iload_n 3, 1) := by decide +kernel
theorem dX9_power_5 : decode cX9_power 5 = .ok (.iload_n 1, 1) := by decide +kernel
theorem dX9_power_6 : decode cX9_power 6 = .ok (.if_icmp .ge 19, 3) := by decide +kernel
theorem dX9_power_9 : decode cX9_power 9 = .ok (.iload_n 3, 1) := by decide +kernel
theorem dX9_power_10 : decode cX9_power 10 = .ok (.bipush 8, 2) := by decide +kernel
theorem dX9_power_12 : decode cX9_power 12 = .ok (.if_icmp .ge 13, 3) := by decide +kernel
theorem dX9_power_15 : decode cX9_power 15 = .ok (.iload_n 2, 1) := by decide +kernel
theorem dX9_power_16 : decode cX9_power 16 = .ok (.iload_n 0, 1) := by decide +kernel
theorem dX9_power_17 : decode cX9_power 17 = .ok (.imul, 1) := by decide +kernel
theorem dX9_power_18 : decode cX9_power 18 = .ok (.istore_n 2, 1) := by decide +kernel
theorem dX9_power_19 : decode cX9_power 19 = .ok (.iinc 3 1, 3) := by decide +kernel
theorem dX9_power_22 : decode cX9_power 22 = .ok (.goto (-18), 3) := by decide +kernel
theorem dX9_power_25 : decode cX9_power 25 = .ok (.iload_n 2, 1) := by decide +kernel
theorem dX9_power_26 : decode cX9_power 26 = .ok (.ireturn, 1) := by decide +kernel
theorem dX9_greatestDivisor_0 : decode cX9_greatestDivisor 0 = .ok (.iconst 1, 1) := by decide +kernel
theorem dX9_greatestDivisor_1 : decode cX9_greatestDivisor 1 = .ok (.iload_n 0, 1) := by decide +kernel
theorem dX9_greatestDivisor_2 : decode cX9_greatestDivisor 2 = .ok (.invokestatic 273, 3) := by decide +kernel
theorem dX9_greatestDivisor_5 : decode cX9_greatestDivisor 5 = .ok (.istore_n 2, 1) := by decide +kernel
theorem dX9_greatestDivisor_6 : decode cX9_greatestDivisor 6 = .ok (.iload_n 1, 1) := by decide +kernel
theorem dX9_greatestDivisor_7 : decode cX9_greatestDivisor 7 = .ok (.istore_n 3, 1) := by decide +kernel
theorem dX9_greatestDivisor_8 : decode cX9_greatestDivisor 8 = .ok (.iconst 0, 1) := by decide +kernel
theorem dX9_greatestDivisor_9 : decode cX9_greatestDivisor 9 = .ok (.istore 4, 2) := by decide +kernel
theorem dX9_greatestDivisor_11 : decode cX9_greatestDivisor 11 = .ok (.iload 4, 2) := by decide +kernel
theorem dX9_greatestDivisor_13 : decode cX9_greatestDivisor 13 = .ok (.bipush 100, 2) := by decide +kernel
theorem dX9_greatestDivisor_15 : decode cX9_greatestDivisor 15 = .ok (.if_icmp .ge 23, 3) := by decide +kernel
theorem dX9_greatestDivisor_18 : decode cX9_greatestDivisor 18 = .ok (.iload_n 3, 1) := by decide +kernel
theorem dX9_greatestDivisor_19 : decode cX9_greatestDivisor 19 = .ok (.ifCond .le 19, 3) := by decide +kernel
theorem dX9_greatestDivisor_22 : decode cX9_greatestDivisor 22 = .ok (.iload_n 2, 1) := by decide +kernel
theorem dX9_greatestDivisor_23 : decode cX9_greatestDivisor 23 = .ok (.iload_n 3, 1) := by decide +kernel
theorem dX9_greatestDivisor_24 : decode cX9_greatestDivisor 24 = .ok (.irem, 1) := by decide +kernel
theorem dX9_greatestDivisor_25 : decode cX9_greatestDivisor 25 = .ok (.istore 5, 2) := by decide +kernel
theorem dX9_greatestDivisor_27 : decode cX9_greatestDivisor 27 = .ok (.iload_n 3, 1) := by decide +kernel
theorem dX9_greatestDivisor_28 : decode cX9_greatestDivisor 28 = .ok (.istore_n 2, 1) := by decide +kernel
theorem dX9_greatestDivisor_29 : decode cX9_greatestDivisor 29 = .ok (.iload 5, 2) := by decide +kernel
theorem dX9_greatestDivisor_31 : decode cX9_greatestDivisor 31 = .ok (.istore_n 3, 1) := by decide +kernel
theorem dX9_greatestDivisor_32 : decode cX9_greatestDivisor 32 = .ok (.iinc 4 1, 3) := by decide +kernel
theorem dX9_greatestDivisor_35 : decode cX9_greatestDivisor 35 = .ok (.goto (-24), 3) := by decide +kernel
theorem dX9_greatestDivisor_38 : decode cX9_greatestDivisor 38 = .ok (.iload_n 2, 1) := by decide +kernel
theorem dX9_greatestDivisor_39 : decode cX9_greatestDivisor 39 = .ok (.ireturn, 1) := by decide +kernel
theorem dX10_init_0 : decode cX10_init 0 = .ok (.aload_n 0, 1) := by decide +kernel
theorem dX10_init_1 : decode cX10_init 1 = .ok (.invokespecial 1, 3) := by decide +kernel
theorem dX10_init_4 : decode cX10_init 4 = .ok (.aload_n 0, 1) := by decide +kernel
theorem dX10_init_5 : decode cX10_init 5 = .ok (.sipush 200, 3) := by decide +kernel
theorem dX10_init_8 : decode cX10_init 8 = .ok (.newarray .int, 2) := by decide +kernel
theorem dX10_init_10 : decode cX10_init 10 = .ok (.putfield 7, 3) := by decide +kernel
theorem dX10_init_13 : decode cX10_init 13 = .ok (.aload_n 0, 1) := by decide +kernel
theorem dX10_init_14 : decode cX10_init 14 = .ok (.bipush 10, 2) := by decide +kernel
theorem dX10_init_16 : decode cX10_init 16 = .ok (.newarray .int, 2) := by decide +kernel
theorem dX10_init_18 : decode cX10_init 18 = .ok (.putfield 13, 3) := by decide +kernel
theorem dX10_init_21 : decode cX10_init 21 = .ok (.aload_n 0, 1) := by decide +kernel
theorem dX10_init_22 : decode cX10_init 22 = .ok (.bipush 10, 2) := by decide +kernel
theorem dX10_init_24 : decode cX10_init 24 = .ok (.newarray .int, 2) := by decide +kernel
theorem dX10_init_26 : decode cX10_init 26 = .ok (.putfield 16, 3) := by decide +kernel
theorem dX10_init_29 : decode cX10_init 29 = .ok (.aload_n 0, 1) := by decide +kernel
theorem dX10_init_30 : decode cX10_init 30 = .ok (.bipush 8, 2) := by decide +kernel
theorem dX10_init_32 : decode cX10_init 32 = .ok (.newarray .int, 2) := by decide +kernel
theorem dX10_init_34 : decode cX10_init 34 = .ok (.putfield 19, 3) := by decide +kernel
theorem dX10_init_37 : decode cX10_init 37 = .ok (.aload_n 0, 1) := by decide +kernel
theorem dX10_init_38 : decode cX10_init 38 = .ok (.bipush 16, 2) := by decide +kernel
theorem dX10_init_40 : decode cX10_init 40 = .ok (.newarray .int, 2) := by decide +kernel
theorem dX10_init_42 : decode cX10_init 42 = .ok (.putfield 22, 3) := by decide +kernel
theorem dX10_init_45 : decode cX10_init 45 = .ok (.aload_n 0, 1) := by decide +kernel
theorem dX10_init_46 : decode cX10_init 46 = .ok (.bipush 16, 2) := by decide +kernel
theorem dX10_init_48 : decode cX10_init 48 = .ok (.newarray .int, 2) := by decide +kernel
theorem dX10_init_50 : decode cX10_init 50 = .ok (.putfield 25, 3) := by decide +kernel
theorem dX10_init_53 : decode cX10_init 53 = .ok (.aload_n 0, 1) := by decide +kernel
theorem dX10_init_54 : decode cX10_init 54 = .ok (.bipush 16, 2) := by decide +kernel
theorem dX10_init_56 : decode cX10_init 56 = .ok (.newarray .int, 2) := by decide +kernel
theorem dX10_init_58 : decode cX10_init 58 = .ok (.putfield 28, 3) := by decide +kernel
theorem dX10_init_61 : decode cX10_init 61 = .ok (.aload_n 0, 1) := by decide +kernel
theorem dX10_init_62 : decode cX10_init 62 = .ok (.bipush 25, 2) := by decide +kernel
theorem dX10_init_64 : decode cX10_init 64 = .ok (.newarray .int, 2) := by decide +kernel
theorem dX10_init_66 : decode cX10_init 66 = .ok (.putfield 31, 3) := by decide +kernel
theorem dX10_init_69 : decode cX10_init 69 = .ok (.aload_n 0, 1) := by decide +kernel
theorem dX10_init_70 : decode cX10_init 70 = .ok (.bipush 50, 2) := by decide +kernel
theorem dX10_init_72 : decode cX10_init 72 = .ok (.newarray .int, 2) := by decide +kernel
theorem dX10_init_74 : decode cX10_init 74 = .ok (.putfield 34, 3) := by decide +kernel
theorem dX10_init_77 : decode cX10_init 77 = .ok (.aload_n 0, 1) := by decide +kernel
theorem dX10_init_78 : decode cX10_init 78 = .ok (.iconst 2, 1) := by decide +kernel
theorem dX10_init_79 : decode cX10_init 79 = .ok (.newarray .boolean, 2) := by decide +kernel
theorem dX10_init_81 : decode cX10_init 81 = .ok (.putfield 37, 3) := by decide +kernel
theorem dX10_init_84 : decode cX10_init 84 = .ok (.aload_n 0, 1) := by decide +kernel
theorem dX10_init_85 : decode cX10_init 85 = .ok (.sipush 250, 3) := by decide +kernel
theorem dX10_init_88 : decode cX10_init 88 = .ok (.newarray .int, 2) := by decide +kernel
theorem dX10_init_90 : decode cX10_init 90 = .ok (.putfield 41, 3) := by decide +kernel
theorem dX10_init_93 : decode cX10_init 93 = .ok (.aload_n 0, 1) := by decide +kernel
theorem dX10_init_94 : decode cX10_init 94 = .ok (.bipush 6, 2) := by decide +kernel
theorem dX10_init_96 : decode cX10_init 96 = .ok (.newarray .int, 2) := by decide +kernel
theorem dX10_init_98 : decode cX10_init 98 = .ok (.putfield 44, 3) := by decide +kernel
theorem dX10_init_101 : decode cX10_init 101 = .ok (.aload_n 0, 1) := by decide +kernel
theorem dX10_init_102 : decode cX10_init 102 = .ok (.bipush 6, 2) := by decide +kernel
theorem dX10_init_104 : decode cX10_init 104 = .ok (.newarray .int, 2) := by decide +kernel
theorem dX10_init_106 : decode cX10_init 106 = .ok (.putfield 47, 3) := by decide +kernel
theorem dX10_init_109 : decode cX10_init 109 = .ok (.aload_n 0, 1) := by decide +kernel
theorem dX10_init_110 : decode cX10_init 110 = .ok (.bipush 6, 2) := by decide +kernel
theorem dX10_init_112 : decode cX10_init 112 = .ok (.newarray .int, 2) := by decide +kernel
theorem dX10_init_114 : decode cX10_init 114 = .ok (.putfield 50, 3) := by decide +kernel
theorem dX10_init_117 : decode cX10_init 117 = .ok (.aload_n 0, 1) := by decide +kernel
theorem dX10_init_118 : decode cX10_init 118 = .ok (.sipush 1446, 3) := by decide +kernel
theorem dX10_init_121 : decode cX10_init 121 = .ok (.newarray .int, 2) := by decide +kernel
theorem dX10_init_123 : decode cX10_init 123 = .ok (.putfield 53, 3) := by decide +kernel
theorem dX10_init_126 : decode cX10_init 126 = .ok (.aload_n 0, 1) := by decide +kernel
theorem dX10_init_127 : decode cX10_init 127 = .ok (.invokevirtual 56, 3) := by decide +kernel
theorem dX10_init_130 : decode cX10_init 130 = .ok (.aload_n 0, 1) := by decide +kernel
theorem dX10_init_131 : decode cX10_init 131 = .ok (.invokevirtual 59, 3) := by decide +kernel
theorem dX10_init_134 : decode cX10_init 134 = .ok (.return_, 1) := by decide +kernel
theorem dX10_in_0 : decode cX10_in 0 = .ok (.iload_n 0, 1) := by decide +kernel
theorem dX10_in_1 : decode cX10_in 1 = .ok (.iload_n 1, 1) := by decide +kernel
theorem dX10_in_2 : decode cX10_in 2 = .ok (.if_icmp .lt 12, 3) := by decide +kernel
theorem dX10_in_5 : decode cX10_in 5 = .ok (.iload_n 0, 1) := by decide +kernel
theorem dX10_in_6 : decode cX10_in 6 = .ok (.iload_n 2, 1) := by decide +kernel
theorem dX10_in_7 : decode cX10_in 7 = .ok (.if_icmp .gt 7, 3) := by decide +kernel
theorem dX10_in_10 : decode cX10_in 10 = .ok (.iconst 1, 1) := by decide +kernel
theorem dX10_in_11 : decode cX10_in 11 = .ok (.goto 4, 3) := by decide +kernel
theorem dX10_in_14 : decode cX10_in 14 = .ok (.iconst 0, 1) := by decide +kernel
theorem dX10_in_15 : decode cX10_in 15 = .ok (.ireturn, 1) := by decide +kernel
theorem dX10_ones_0 : decode cX10_ones 0 = .ok (.iconst 0, 1) := by decide +kernel
theorem dX10_ones_1 : decode cX10_ones 1 = .ok (.istore_n 1, 1) := by decide +kernel
theorem dX10_ones_2 : decode cX10_ones 2 = .ok (.iconst 0, 1) := by decide +kernel
theorem dX10_ones_3 : decode cX10_ones 3 = .ok (.istore_n 2, 1) := by decide +kernel
theorem dX10_ones_4 : decode cX10_ones 4 = .ok (.iload_n 2, 1) := by decide +kernel
theorem dX10_ones_5 : decode cX10_ones 5 = .ok (.bipush 8, 2) := by decide +kernel
theorem dX10_ones_7 : decode cX10_ones 7 = .ok (.if_icmp .ge 17, 3) := by decide +kernel
theorem dX10_ones_10 : decode cX10_ones 10 = .ok (.iload_n 1, 1) := by decide +kernel
theorem dX10_ones_11 : decode cX10_ones 11 = .ok (.iload_n 0, 1) := by decide +kernel
theorem dX10_ones_12 : decode cX10_ones 12 = .ok (.iload_n 2, 1) := by decide +kernel
theorem dX10_ones_13 : decode cX10_ones 13 = .ok (.ishr, 1) := by decide +kernel
theorem dX10_ones_14 : decode cX10_ones 14 = .ok (.iconst 1, 1) := by decide +kernel
theorem dX10_ones_15 : decode cX10_ones 15 = .ok (.iand, 1) := by decide +kernel
theorem dX10_ones_16 : decode cX10_ones 16 = .ok (.iadd, 1) := by decide +kernel
theorem dX10_ones_17 : decode cX10_ones 17 = .ok (.istore_n 1, 1) := by decide +kernel
theorem dX10_ones_18 : decode cX10_ones 18 = .ok (.iinc 2 1, 3) := by decide +kernel
theorem dX10_ones_21 : decode cX10_ones 21 = .ok (.goto (-17), 3) := by decide +kernel
theorem dX10_ones_24 : decode cX10_ones 24 = .ok (.iload_n 1, 1) := by decide +kernel
theorem dX10_ones_25 : decode cX10_ones 25 = .ok (.ireturn, 1) := by decide +kernel
theorem dX10_type_0 : decode cX10_type 0 = .ok (.aload_n 0, 1) := by decide +kernel
theorem dX10_type_1 : decode cX10_type 1 = .ok (.iconst 0, 1) := by decide +kernel
theorem dX10_type_2 : decode cX10_type 2 = .ok (.putfield 62, 3) := by decide +kernel
theorem dX10_type_5 : decode cX10_type 5 = .ok (.iload_n 1, 1) := by decide +kernel
theorem dX10_type_6 : decode cX10_type 6 = .ok (.iconst 0, 1) := by decide +kernel
theorem dX10_type_7 : decode cX10_type 7 = .ok (.sipush 255, 3) := by decide +kernel
theorem dX10_type_10 : decode cX10_type 10 = .ok (.invokestatic 66, 3) := by decide +kernel
theorem dX10_type_13 : decode cX10_type 13 = .ok (.ifCond .ne 5, 3) := by decide +kernel
theorem dX10_type_16 : decode cX10_type 16 = .ok (.iconst (-1), 1) := by decide +kernel
theorem dX10_type_17 : decode cX10_type 17 = .ok (.ireturn, 1) := by decide +kernel
theorem dX10_type_18 : decode cX10_type 18 = .ok (.aload_n 0, 1) := by decide +kernel
theorem dX10_type_19 : decode cX10_type 19 = .ok (.getfield 70, 3) := by decide +kernel
theorem dX10_type_22 : decode cX10_type 22 = .ok (.sipush 200, 3) := by decide +kernel
theorem dX10_type_25 : decode cX10_type 25 = .ok (.if_icmp .ne 6, 3) := by decide +kernel
theorem dX10_type_28 : decode cX10_type 28 = .ok (.bipush (-3), 2) := by decide +kernel
theorem dX10_type_30 : decode cX10_type 30 = .ok (.ireturn, 1) := by decide +kernel
theorem dX10_type_31 : decode cX10_type 31 = .ok (.aload_n 0, 1) := by decide +kernel
theorem dX10_type_32 : decode cX10_type 32 = .ok (.getfield 7, 3) := by decide +kernel
theorem dX10_type_35 : decode cX10_type 35 = .ok (.aload_n 0, 1) := by decide +kernel
theorem dX10_type_36 : decode cX10_type 36 = .ok (.getfield 70, 3) := by decide +kernel
theorem dX10_type_39 : decode cX10_type 39 = .ok (.iload_n 1, 1) := by decide +kernel
theorem dX10_type_40 : decode cX10_type 40 = .ok (.iastore, 1) := by decide +kernel
theorem dX10_type_41 : decode cX10_type 41 = .ok (.aload_n 0, 1) := by decide +kernel
theorem dX10_type_42 : decode cX10_type 42 = .ok (.dup, 1) := by decide +kernel
theorem dX10_type_43 : decode cX10_type 43 = .ok (.getfield 70, 3) := by decide +kernel
theorem dX10_type_46 : decode cX10_type 46 = .ok (.iconst 1, 1) := by decide +kernel
theorem dX10_type_47 : decode cX10_type 47 = .ok (.iadd, 1) := by decide +kernel
theorem dX10_type_48 : decode cX10_type 48 = .ok (.putfield 70, 3) := by decide +kernel
theorem dX10_type_51 : decode cX10_type 51 = .ok (.aload_n 0, 1) := by decide +kernel
theorem dX10_type_52 : decode cX10_type 52 = .ok (.getfield 70, 3) := by decide +kernel
theorem dX10_type_55 : decode cX10_type 55 = .ok (.ireturn, 1) := by decide +kernel
theorem dX10_clear_0 : decode cX10_clear 0 = .ok (.aload_n 0, 1) := by decide +kernel
theorem dX10_clear_1 : decode cX10_clear 1 = .ok (.iconst 0, 1) := by decide +kernel
theorem dX10_clear_2 : decode cX10_clear 2 = .ok (.putfield 62, 3) := by decide +kernel
theorem dX10_clear_5 : decode cX10_clear 5 = .ok (.aload_n 0, 1) := by decide +kernel
theorem dX10_clear_6 : decode cX10_clear 6 = .ok (.getfield 70, 3) := by decide +kernel
theorem dX10_clear_9 : decode cX10_clear 9 = .ok (.istore_n 1, 1) := by decide +kernel
theorem dX10_clear_10 : decode cX10_clear 10 = .ok (.aload_n 0, 1) := by decide +kernel
theorem dX10_clear_11 : decode cX10_clear 11 = .ok (.iconst 0, 1) := by decide +kernel
theorem dX10_clear_12 : decode cX10_clear 12 = .ok (.putfield 70, 3) := by decide +kernel
theorem dX10_clear_15 : decode cX10_clear 15 = .ok (.iload_n 1, 1) := by decide +kernel
theorem dX10_clear_16 : decode cX10_clear 16 = .ok (.ireturn, 1) := by decide +kernel
theorem dX10_letterAt_0 : decode cX10_letterAt 0 = .ok (.iload_n 1, 1) := by decide +kernel
theorem dX10_letterAt_1 : decode cX10_letterAt 1 = .ok (.aload_n 0, 1) := by decide +kernel
theorem dX10_letterAt_2 : decode cX10_letterAt 2 = .ok (.getfield 70, 3) := by decide +kernel
theorem dX10_letterAt_5 : decode cX10_letterAt 5 = .ok (.if_icmp .ge 12, 3) := by decide +kernel
theorem dX10_letterAt_8 : decode cX10_letterAt 8 = .ok (.aload_n 0, 1) := by decide +kernel
theorem dX10_letterAt_9 : decode cX10_letterAt 9 = .ok (.getfield 7, 3) := by decide +kernel
theorem dX10_letterAt_12 : decode cX10_letterAt 12 = .ok (.iload_n 1, 1) := by decide +kernel
theorem dX10_letterAt_13 : decode cX10_letterAt 13 = .ok (.iaload, 1) := by decide +kernel
theorem dX10_letterAt_14 : decode cX10_letterAt 14 = .ok (.goto 4, 3) := by decide +kernel
theorem dX10_letterAt_17 : decode cX10_letterAt 17 = .ok (.iconst (-1), 1) := by decide +kernel
theorem dX10_letterAt_18 : decode cX10_letterAt 18 = .ok (.ireturn, 1) := by decide +kernel
theorem dX10_isLetter_0 : decode cX10_isLetter 0 = .ok (.iload_n 0, 1) := by decide +kernel
theorem dX10_isLetter_1 : decode cX10_isLetter 1 = .ok (.bipush 119, 2) := by decide +kernel
theorem dX10_isLetter_3 : decode cX10_isLetter 3 = .ok (.if_icmp .eq 27, 3) := by decide +kernel
theorem dX10_isLetter_6 : decode cX10_isLetter 6 = .ok (.iload_n 0, 1) := by decide +kernel
theorem dX10_isLetter_7 : decode cX10_isLetter 7 = .ok (.bipush 112, 2) := by decide +kernel
theorem dX10_isLetter_9 : decode cX10_isLetter 9 = .ok (.if_icmp .eq 21, 3) := by decide +kernel
theorem dX10_isLetter_12 : decode cX10_isLetter 12 = .ok (.iload_n 0, 1) := by decide +kernel
theorem dX10_isLetter_13 : decode cX10_isLetter 13 = .ok (.bipush 100, 2) := by decide +kernel
theorem dX10_isLetter_15 : decode cX10_isLetter 15 = .ok (.if_icmp .eq 15, 3) := by decide +kernel
theorem dX10_isLetter_18 : decode cX10_isLetter 18 = .ok (.iload_n 0, 1) := by decide +kernel
theorem dX10_isLetter_19 : decode cX10_isLetter 19 = .ok (.bipush 103, 2) := by decide +kernel
theorem dX10_isLetter_21 : decode cX10_isLetter 21 = .ok (.if_icmp .eq 9, 3) := by decide +kernel
theorem dX10_isLetter_24 : decode cX10_isLetter 24 = .ok (.iload_n 0, 1) := by decide +kernel
theorem dX10_isLetter_25 : decode cX10_isLetter 25 = .ok (.bipush 102, 2) := by decide +kernel
theorem dX10_isLetter_27 : decode cX10_isLetter 27 = .ok (.if_icmp .ne 7, 3) := by decide +kernel
theorem dX10_isLetter_30 : decode cX10_isLetter 30 = .ok (.iconst 1, 1) := by decide +kernel
theorem dX10_isLetter_31 : decode cX10_isLetter 31 = .ok (.goto 4, 3) := by decide +kernel
theorem dX10_isLetter_34 : decode cX10_isLetter 34 = .ok (.iconst 0, 1) := by decide +kernel
theorem dX10_isLetter_35 : decode cX10_isLetter 35 = .ok (.ireturn, 1) := by decide +kernel
theorem dX10_advances_0 : decode cX10_advances 0 = .ok (.aload_n 0, 1) := by decide +kernel
theorem dX10_advances_1 : decode cX10_advances 1 = .ok (.aload_n 0, 1) := by decide +kernel
theorem dX10_advances_2 : decode cX10_advances 2 = .ok (.getfield 73, 3) := by decide +kernel
theorem dX10_advances_5 : decode cX10_advances 5 = .ok (.invokevirtual 76, 3) := by decide +kernel
theorem dX10_advances_8 : decode cX10_advances 8 = .ok (.bipush 32, 2) := by decide +kernel
theorem dX10_advances_10 : decode cX10_advances 10 = .ok (.if_icmp .ne 16, 3) := by decide +kernel
theorem dX10_advances_13 : decode cX10_advances 13 = .ok (.aload_n 0, 1) := by decide +kernel
theorem dX10_advances_14 : decode cX10_advances 14 = .ok (.dup, 1) := by decide +kernel
theorem dX10_advances_15 : decode cX10_advances 15 = .ok (.getfield 73, 3) := by decide +kernel
theorem dX10_advances_18 : decode cX10_advances 18 = .ok (.iconst 1, 1) := by decide +kernel
theorem dX10_advances_19 : decode cX10_advances 19 = .ok (.iadd, 1) := by decide +kernel
theorem dX10_advances_20 : decode cX10_advances 20 = .ok (.putfield 73, 3) := by decide +kernel
theorem dX10_advances_23 : decode cX10_advances 23 = .ok (.goto (-23), 3) := by decide +kernel
theorem dX10_advances_26 : decode cX10_advances 26 = .ok (.aload_n 0, 1) := by decide +kernel
theorem dX10_advances_27 : decode cX10_advances 27 = .ok (.aload_n 0, 1) := by decide +kernel
theorem dX10_advances_28 : decode cX10_advances 28 = .ok (.getfield 73, 3) := by decide +kernel
theorem dX10_advances_31 : decode cX10_advances 31 = .ok (.putfield 80, 3) := by decide +kernel
theorem dX10_advances_34 : decode cX10_advances 34 = .ok (.aload_n 0, 1) := by decide +kernel
theorem dX10_advances_35 : decode cX10_advances 35 = .ok (.aload_n 0, 1) := by decide +kernel
theorem dX10_advances_36 : decode cX10_advances 36 = .ok (.getfield 73, 3) := by decide +kernel
theorem dX10_advances_39 : decode cX10_advances 39 = .ok (.invokevirtual 76, 3) := by decide +kernel
theorem dX10_advances_42 : decode cX10_advances 42 = .ok (.istore_n 1, 1) := by decide +kernel
theorem dX10_advances_43 : decode cX10_advances 43 = .ok (.iload_n 1, 1) := by decide +kernel
theorem dX10_advances_44 : decode cX10_advances 44 = .ok (.ifCond .ge 11, 3) := by decide +kernel
theorem dX10_advances_47 : decode cX10_advances 47 = .ok (.aload_n 0, 1) := by decide +kernel
theorem dX10_advances_48 : decode cX10_advances 48 = .ok (.iconst 0, 1) := by decide +kernel
theorem dX10_advances_49 : decode cX10_advances 49 = .ok (.putfield 83, 3) := by decide +kernel
theorem dX10_advances_52 : decode cX10_advances 52 = .ok (.goto 172, 3) := by decide +kernel
theorem dX10_advances_55 : decode cX10_advances 55 = .ok (.iload_n 1, 1) := by decide +kernel
theorem dX10_advances_56 : decode cX10_advances 56 = .ok (.bipush 48, 2) := by decide +kernel
