theorem dX0_init_0 : decode cX0_init 0 = .ok (.aload_n 0, 1) := by decide +kernel
theorem dX0_init_1 : decode cX0_init 1 = .ok (.invokespecial 3, 3) := by decide +kernel
theorem dX0_init_4 : decode cX0_init 4 = .ok (.aload_n 0, 1) := by decide +kernel
theorem dX0_init_5 : decode cX0_init 5 = .ok (.new 9, 3) := by decide +kernel
theorem dX0_init_8 : decode cX0_init 8 = .ok (.dup, 1) := by decide +kernel
theorem dX0_init_9 : decode cX0_init 9 = .ok (.invokespecial 11, 3) := by decide +kernel
theorem dX0_init_12 : decode cX0_init 12 = .ok (.putfield 12, 3) := by decide +kernel
theorem dX0_init_15 : decode cX0_init 15 = .ok (.aload_n 0, 1) := by decide +kernel
theorem dX0_init_16 : decode cX0_init 16 = .ok (.new 18, 3) := by decide +kernel
theorem dX0_init_19 : decode cX0_init 19 = .ok (.dup, 1) := by decide +kernel
theorem dX0_init_20 : decode cX0_init 20 = .ok (.invokespecial 20, 3) := by decide +kernel
theorem dX0_init_23 : decode cX0_init 23 = .ok (.putfield 21, 3) := by decide +kernel
theorem dX0_init_26 : decode cX0_init 26 = .ok (.return_, 1) := by decide +kernel
theorem dX0_begin_0 : decode cX0_begin 0 = .ok (.aload_n 0, 1) := by decide +kernel
theorem dX0_begin_1 : decode cX0_begin 1 = .ok (.getfield 12, 3) := by decide +kernel
theorem dX0_begin_4 : decode cX0_begin 4 = .ok (.aload_n 1, 1) := by decide +kernel
theorem dX0_begin_5 : decode cX0_begin 5 = .ok (.invokevirtual 25, 3) := by decide +kernel
theorem dX0_begin_8 : decode cX0_begin 8 = .ok (.aload_n 0, 1) := by decide +kernel
theorem dX0_begin_9 : decode cX0_begin 9 = .ok (.getfield 21, 3) := by decide +kernel
theorem dX0_begin_12 : decode cX0_begin 12 = .ok (.aload_n 0, 1) := by decide +kernel
theorem dX0_begin_13 : decode cX0_begin 13 = .ok (.getfield 12, 3) := by decide +kernel
theorem dX0_begin_16 : decode cX0_begin 16 = .ok (.invokevirtual 29, 3) := by decide +kernel
theorem dX0_begin_19 : decode cX0_begin 19 = .ok (.return_, 1) := by decide +kernel
theorem dX0_isDue_0 : decode cX0_isDue 0 = .ok (.aload_n 0, 1) := by decide +kernel
theorem dX0_isDue_1 : decode cX0_isDue 1 = .ok (.getfield 21, 3) := by decide +kernel
theorem dX0_isDue_4 : decode cX0_isDue 4 = .ok (.getfield 32, 3) := by decide +kernel
theorem dX0_isDue_7 : decode cX0_isDue 7 = .ok (.iload_n 1, 1) := by decide +kernel
theorem dX0_isDue_8 : decode cX0_isDue 8 = .ok (.invokestatic 36, 3) := by decide +kernel
theorem dX0_isDue_11 : decode cX0_isDue 11 = .ok (.ifCond .ne 57, 3) := by decide +kernel
theorem dX0_isDue_14 : decode cX0_isDue 14 = .ok (.iload_n 2, 1) := by decide +kernel
theorem dX0_isDue_15 : decode cX0_isDue 15 = .ok (.aload_n 0, 1) := by decide +kernel
theorem dX0_isDue_16 : decode cX0_isDue 16 = .ok (.getfield 12, 3) := by decide +kernel
theorem dX0_isDue_19 : decode cX0_isDue 19 = .ok (.getfield 40, 3) := by decide +kernel
theorem dX0_isDue_22 : decode cX0_isDue 22 = .ok (.iload_n 1, 1) := by decide +kernel
theorem dX0_isDue_23 : decode cX0_isDue 23 = .ok (.iaload, 1) := by decide +kernel
theorem dX0_isDue_24 : decode cX0_isDue 24 = .ok (.aload_n 0, 1) := by decide +kernel
theorem dX0_isDue_25 : decode cX0_isDue 25 = .ok (.getfield 12, 3) := by decide +kernel
theorem dX0_isDue_28 : decode cX0_isDue 28 = .ok (.getfield 44, 3) := by decide +kernel
theorem dX0_isDue_31 : decode cX0_isDue 31 = .ok (.iadd, 1) := by decide +kernel
theorem dX0_isDue_32 : decode cX0_isDue 32 = .ok (.if_icmp .lt 36, 3) := by decide +kernel
theorem dX0_isDue_35 : decode cX0_isDue 35 = .ok (.iload_n 2, 1) := by decide +kernel
theorem dX0_isDue_36 : decode cX0_isDue 36 = .ok (.sipush 240, 3) := by decide +kernel
theorem dX0_isDue_39 : decode cX0_isDue 39 = .ok (.aload_n 0, 1) := by decide +kernel
theorem dX0_isDue_40 : decode cX0_isDue 40 = .ok (.getfield 12, 3) := by decide +kernel
theorem dX0_isDue_43 : decode cX0_isDue 43 = .ok (.getfield 40, 3) := by decide +kernel
theorem dX0_isDue_46 : decode cX0_isDue 46 = .ok (.iload_n 1, 1) := by decide +kernel
theorem dX0_isDue_47 : decode cX0_isDue 47 = .ok (.iaload, 1) := by decide +kernel
theorem dX0_isDue_48 : decode cX0_isDue 48 = .ok (.aload_n 0, 1) := by decide +kernel
theorem dX0_isDue_49 : decode cX0_isDue 49 = .ok (.getfield 12, 3) := by decide +kernel
theorem dX0_isDue_52 : decode cX0_isDue 52 = .ok (.getfield 47, 3) := by decide +kernel
theorem dX0_isDue_55 : decode cX0_isDue 55 = .ok (.iload_n 1, 1) := by decide +kernel
theorem dX0_isDue_56 : decode cX0_isDue 56 = .ok (.iaload, 1) := by decide +kernel
theorem dX0_isDue_57 : decode cX0_isDue 57 = .ok (.iadd, 1) := by decide +kernel
theorem dX0_isDue_58 : decode cX0_isDue 58 = .ok (.invokestatic 50, 3) := by decide +kernel
theorem dX0_isDue_61 : decode cX0_isDue 61 = .ok (.if_icmp .ge 7, 3) := by decide +kernel
theorem dX0_isDue_64 : decode cX0_isDue 64 = .ok (.iconst 1, 1) := by decide +kernel
theorem dX0_isDue_65 : decode cX0_isDue 65 = .ok (.goto 4, 3) := by decide +kernel
theorem dX0_isDue_68 : decode cX0_isDue 68 = .ok (.iconst 0, 1) := by decide +kernel
theorem dX0_isDue_69 : decode cX0_isDue 69 = .ok (.ireturn, 1) := by decide +kernel
theorem dX0_dueAt_0 : decode cX0_dueAt 0 = .ok (.iconst 0, 1) := by decide +kernel
theorem dX0_dueAt_1 : decode cX0_dueAt 1 = .ok (.istore_n 3, 1) := by decide +kernel
theorem dX0_dueAt_2 : decode cX0_dueAt 2 = .ok (.iconst 0, 1) := by decide +kernel
theorem dX0_dueAt_3 : decode cX0_dueAt 3 = .ok (.istore 4, 2) := by decide +kernel
theorem dX0_dueAt_5 : decode cX0_dueAt 5 = .ok (.iload 4, 2) := by decide +kernel
theorem dX0_dueAt_7 : decode cX0_dueAt 7 = .ok (.aload_n 0, 1) := by decide +kernel
theorem dX0_dueAt_8 : decode cX0_dueAt 8 = .ok (.getfield 12, 3) := by decide +kernel
theorem dX0_dueAt_11 : decode cX0_dueAt 11 = .ok (.getfield 55, 3) := by decide +kernel
theorem dX0_dueAt_14 : decode cX0_dueAt 14 = .ok (.if_icmp .ge 48, 3) := by decide +kernel
theorem dX0_dueAt_17 : decode cX0_dueAt 17 = .ok (.aload_n 0, 1) := by decide +kernel
theorem dX0_dueAt_18 : decode cX0_dueAt 18 = .ok (.getfield 21, 3) := by decide +kernel
theorem dX0_dueAt_21 : decode cX0_dueAt 21 = .ok (.getfield 58, 3) := by decide +kernel
theorem dX0_dueAt_24 : decode cX0_dueAt 24 = .ok (.iload 4, 2) := by decide +kernel
theorem dX0_dueAt_26 : decode cX0_dueAt 26 = .ok (.iaload, 1) := by decide +kernel
theorem dX0_dueAt_27 : decode cX0_dueAt 27 = .ok (.iload_n 1, 1) := by decide +kernel
theorem dX0_dueAt_28 : decode cX0_dueAt 28 = .ok (.if_icmp .ne 28, 3) := by decide +kernel
theorem dX0_dueAt_31 : decode cX0_dueAt 31 = .ok (.aload_n 0, 1) := by decide +kernel
theorem dX0_dueAt_32 : decode cX0_dueAt 32 = .ok (.iload 4, 2) := by decide +kernel
theorem dX0_dueAt_34 : decode cX0_dueAt 34 = .ok (.iload_n 2, 1) := by decide +kernel
theorem dX0_dueAt_35 : decode cX0_dueAt 35 = .ok (.invokevirtual 61, 3) := by decide +kernel
theorem dX0_dueAt_38 : decode cX0_dueAt 38 = .ok (.ifCond .eq 18, 3) := by decide +kernel
theorem dX0_dueAt_41 : decode cX0_dueAt 41 = .ok (.iload_n 3, 1) := by decide +kernel
theorem dX0_dueAt_42 : decode cX0_dueAt 42 = .ok (.iconst 1, 1) := by decide +kernel
theorem dX0_dueAt_43 : decode cX0_dueAt 43 = .ok (.aload_n 0, 1) := by decide +kernel
theorem dX0_dueAt_44 : decode cX0_dueAt 44 = .ok (.getfield 12, 3) := by decide +kernel
theorem dX0_dueAt_47 : decode cX0_dueAt 47 = .ok (.getfield 65, 3) := by decide +kernel
theorem dX0_dueAt_50 : decode cX0_dueAt 50 = .ok (.iload 4, 2) := by decide +kernel
theorem dX0_dueAt_52 : decode cX0_dueAt 52 = .ok (.iaload, 1) := by decide +kernel
theorem dX0_dueAt_53 : decode cX0_dueAt 53 = .ok (.ishl, 1) := by decide +kernel
theorem dX0_dueAt_54 : decode cX0_dueAt 54 = .ok (.ior, 1) := by decide +kernel
theorem dX0_dueAt_55 : decode cX0_dueAt 55 = .ok (.istore_n 3, 1) := by decide +kernel
theorem dX0_dueAt_56 : decode cX0_dueAt 56 = .ok (.iinc 4 1, 3) := by decide +kernel
theorem dX0_dueAt_59 : decode cX0_dueAt 59 = .ok (.goto (-54), 3) := by decide +kernel
theorem dX0_dueAt_62 : decode cX0_dueAt 62 = .ok (.iload_n 3, 1) := by decide +kernel
theorem dX0_dueAt_63 : decode cX0_dueAt 63 = .ok (.ireturn, 1) := by decide +kernel
theorem dX0_isRungAt_0 : decode cX0_isRungAt 0 = .ok (.aload_n 0, 1) := by decide +kernel
theorem dX0_isRungAt_1 : decode cX0_isRungAt 1 = .ok (.iload_n 2, 1) := by decide +kernel
theorem dX0_isRungAt_2 : decode cX0_isRungAt 2 = .ok (.iload_n 3, 1) := by decide +kernel
theorem dX0_isRungAt_3 : decode cX0_isRungAt 3 = .ok (.invokevirtual 68, 3) := by decide +kernel
theorem dX0_isRungAt_6 : decode cX0_isRungAt 6 = .ok (.iconst 1, 1) := by decide +kernel
theorem dX0_isRungAt_7 : decode cX0_isRungAt 7 = .ok (.iload_n 1, 1) := by decide +kernel
theorem dX0_isRungAt_8 : decode cX0_isRungAt 8 = .ok (.ishl, 1) := by decide +kernel
theorem dX0_isRungAt_9 : decode cX0_isRungAt 9 = .ok (.iconst (-1), 1) := by decide +kernel
theorem dX0_isRungAt_10 : decode cX0_isRungAt 10 = .ok (.ixor, 1) := by decide +kernel
theorem dX0_isRungAt_11 : decode cX0_isRungAt 11 = .ok (.iand, 1) := by decide +kernel
theorem dX0_isRungAt_12 : decode cX0_isRungAt 12 = .ok (.ifCond .eq 7, 3) := by decide +kernel
theorem dX0_isRungAt_15 : decode cX0_isRungAt 15 = .ok (.iconst 1, 1) := by decide +kernel
theorem dX0_isRungAt_16 : decode cX0_isRungAt 16 = .ok (.goto 4, 3) := by decide +kernel
theorem dX0_isRungAt_19 : decode cX0_isRungAt 19 = .ok (.iconst 0, 1) := by decide +kernel
theorem dX0_isRungAt_20 : decode cX0_isRungAt 20 = .ok (.ireturn, 1) := by decide +kernel
theorem dX0_dutiesRung_0 : decode cX0_dutiesRung 0 = .ok (.iconst 0, 1) := by decide +kernel
theorem dX0_dutiesRung_1 : decode cX0_dutiesRung 1 = .ok (.istore_n 2, 1) := by decide +kernel
theorem dX0_dutiesRung_2 : decode cX0_dutiesRung 2 = .ok (.iconst 0, 1) := by decide +kernel
theorem dX0_dutiesRung_3 : decode cX0_dutiesRung 3 = .ok (.istore_n 3, 1) := by decide +kernel
theorem dX0_dutiesRung_4 : decode cX0_dutiesRung 4 = .ok (.iload_n 3, 1) := by decide +kernel
theorem dX0_dutiesRung_5 : decode cX0_dutiesRung 5 = .ok (.aload_n 0, 1) := by decide +kernel
theorem dX0_dutiesRung_6 : decode cX0_dutiesRung 6 = .ok (.getfield 12, 3) := by decide +kernel
theorem dX0_dutiesRung_9 : decode cX0_dutiesRung 9 = .ok (.getfield 55, 3) := by decide +kernel
theorem dX0_dutiesRung_12 : decode cX0_dutiesRung 12 = .ok (.if_icmp .ge 50, 3) := by decide +kernel
theorem dX0_dutiesRung_15 : decode cX0_dutiesRung 15 = .ok (.aload_n 0, 1) := by decide +kernel
theorem dX0_dutiesRung_16 : decode cX0_dutiesRung 16 = .ok (.iload_n 3, 1) := by decide +kernel
theorem dX0_dutiesRung_17 : decode cX0_dutiesRung 17 = .ok (.iload_n 1, 1) := by decide +kernel
theorem dX0_dutiesRung_18 : decode cX0_dutiesRung 18 = .ok (.invokevirtual 61, 3) := by decide +kernel
theorem dX0_dutiesRung_21 : decode cX0_dutiesRung 21 = .ok (.ifCond .eq 35, 3) := by decide +kernel
theorem dX0_dutiesRung_24 : decode cX0_dutiesRung 24 = .ok (.aload_n 0, 1) := by decide +kernel
theorem dX0_dutiesRung_25 : decode cX0_dutiesRung 25 = .ok (.aload_n 0, 1) := by decide +kernel
theorem dX0_dutiesRung_26 : decode cX0_dutiesRung 26 = .ok (.getfield 21, 3) := by decide +kernel
theorem dX0_dutiesRung_29 : decode cX0_dutiesRung 29 = .ok (.getfield 58, 3) := by decide +kernel
theorem dX0_dutiesRung_32 : decode cX0_dutiesRung 32 = .ok (.iload_n 3, 1) := by decide +kernel
theorem dX0_dutiesRung_33 : decode cX0_dutiesRung 33 = .ok (.iaload, 1) := by decide +kernel
theorem dX0_dutiesRung_34 : decode cX0_dutiesRung 34 = .ok (.aload_n 0, 1) := by decide +kernel
theorem dX0_dutiesRung_35 : decode cX0_dutiesRung 35 = .ok (.getfield 12, 3) := by decide +kernel
theorem dX0_dutiesRung_38 : decode cX0_dutiesRung 38 = .ok (.getfield 65, 3) := by decide +kernel
theorem dX0_dutiesRung_41 : decode cX0_dutiesRung 41 = .ok (.iload_n 3, 1) := by decide +kernel
theorem dX0_dutiesRung_42 : decode cX0_dutiesRung 42 = .ok (.iaload, 1) := by decide +kernel
theorem dX0_dutiesRung_43 : decode cX0_dutiesRung 43 = .ok (.iload_n 1, 1) := by decide +kernel
theorem dX0_dutiesRung_44 : decode cX0_dutiesRung 44 = .ok (.invokevirtual 71, 3) := by decide +kernel
theorem dX0_dutiesRung_47 : decode cX0_dutiesRung 47 = .ok (.ifCond .ne 9, 3) := by decide +kernel
theorem dX0_dutiesRung_50 : decode cX0_dutiesRung 50 = .ok (.iload_n 2, 1) := by decide +kernel
theorem dX0_dutiesRung_51 : decode cX0_dutiesRung 51 = .ok (.iconst 1, 1) := by decide +kernel
theorem dX0_dutiesRung_52 : decode cX0_dutiesRung 52 = .ok (.iload_n 3, 1) := by decide +kernel
theorem dX0_dutiesRung_53 : decode cX0_dutiesRung 53 = .ok (.ishl, 1) := by decide +kernel
theorem dX0_dutiesRung_54 : decode cX0_dutiesRung 54 = .ok (.ior, 1) := by decide +kernel
theorem dX0_dutiesRung_55 : decode cX0_dutiesRung 55 = .ok (.istore_n 2, 1) := by decide +kernel
theorem dX0_dutiesRung_56 : decode cX0_dutiesRung 56 = .ok (.iinc 3 1, 3) := by decide +kernel
theorem dX0_dutiesRung_59 : decode cX0_dutiesRung 59 = .ok (.goto (-55), 3) := by decide +kernel
theorem dX0_dutiesRung_62 : decode cX0_dutiesRung 62 = .ok (.iload_n 2, 1) := by decide +kernel
theorem dX0_dutiesRung_63 : decode cX0_dutiesRung 63 = .ok (.ireturn, 1) := by decide +kernel
theorem dX0_willBeThere_0 : decode cX0_willBeThere 0 = .ok (.aload_n 0, 1) := by decide +kernel
theorem dX0_willBeThere_1 : decode cX0_willBeThere 1 = .ok (.getfield 21, 3) := by decide +kernel
theorem dX0_willBeThere_4 : decode cX0_willBeThere 4 = .ok (.getfield 75, 3) := by decide +kernel
theorem dX0_willBeThere_7 : decode cX0_willBeThere 7 = .ok (.iload_n 1, 1) := by decide +kernel
theorem dX0_willBeThere_8 : decode cX0_willBeThere 8 = .ok (.iaload, 1) := by decide +kernel
theorem dX0_willBeThere_9 : decode cX0_willBeThere 9 = .ok (.iload_n 2, 1) := by decide +kernel
theorem dX0_willBeThere_10 : decode cX0_willBeThere 10 = .ok (.if_icmp .ne 28, 3) := by decide +kernel
theorem dX0_willBeThere_13 : decode cX0_willBeThere 13 = .ok (.iload_n 3, 1) := by decide +kernel
theorem dX0_willBeThere_14 : decode cX0_willBeThere 14 = .ok (.aload_n 0, 1) := by decide +kernel
theorem dX0_willBeThere_15 : decode cX0_willBeThere 15 = .ok (.getfield 21, 3) := by decide +kernel
theorem dX0_willBeThere_18 : decode cX0_willBeThere 18 = .ok (.getfield 76, 3) := by decide +kernel
theorem dX0_willBeThere_21 : decode cX0_willBeThere 21 = .ok (.aload_n 0, 1) := by decide +kernel
theorem dX0_willBeThere_22 : decode cX0_willBeThere 22 = .ok (.getfield 21, 3) := by decide +kernel
theorem dX0_willBeThere_25 : decode cX0_willBeThere 25 = .ok (.getfield 79, 3) := by decide +kernel
theorem dX0_willBeThere_28 : decode cX0_willBeThere 28 = .ok (.iload_n 1, 1) := by decide +kernel
theorem dX0_willBeThere_29 : decode cX0_willBeThere 29 = .ok (.iaload, 1) := by decide +kernel
theorem dX0_willBeThere_30 : decode cX0_willBeThere 30 = .ok (.iadd, 1) := by decide +kernel
theorem dX0_willBeThere_31 : decode cX0_willBeThere 31 = .ok (.if_icmp .lt 7, 3) := by decide +kernel
theorem dX0_willBeThere_34 : decode cX0_willBeThere 34 = .ok (.iconst 1, 1) := by decide +kernel
theorem dX0_willBeThere_35 : decode cX0_willBeThere 35 = .ok (.goto 4, 3) := by decide +kernel
theorem dX0_willBeThere_38 : decode cX0_willBeThere 38 = .ok (.iconst 0, 1) := by decide +kernel
theorem dX0_willBeThere_39 : decode cX0_willBeThere 39 = .ok (.ireturn, 1) := by decide +kernel
theorem dX0_rung_0 : decode cX0_rung 0 = .ok (.aload_n 0, 1) := by decide +kernel
theorem dX0_rung_1 : decode cX0_rung 1 = .ok (.aload_n 0, 1) := by decide +kernel
theorem dX0_rung_2 : decode cX0_rung 2 = .ok (.iload_n 1, 1) := by decide +kernel
theorem dX0_rung_3 : decode cX0_rung 3 = .ok (.invokevirtual 82, 3) := by decide +kernel
theorem dX0_rung_6 : decode cX0_rung 6 = .ok (.invokevirtual 86, 3) := by decide +kernel
theorem dX0_rung_9 : decode cX0_rung 9 = .ok (.ireturn, 1) := by decide +kernel
theorem dX0_owners_0 : decode cX0_owners 0 = .ok (.iconst 0, 1) := by decide +kernel
theorem dX0_owners_1 : decode cX0_owners 1 = .ok (.istore_n 2, 1) := by decide +kernel
theorem dX0_owners_2 : decode cX0_owners 2 = .ok (.iconst 0, 1) := by decide +kernel
theorem dX0_owners_3 : decode cX0_owners 3 = .ok (.istore_n 3, 1) := by decide +kernel
theorem dX0_owners_4 : decode cX0_owners 4 = .ok (.iload_n 3, 1) := by decide +kernel
theorem dX0_owners_5 : decode cX0_owners 5 = .ok (.aload_n 0, 1) := by decide +kernel
theorem dX0_owners_6 : decode cX0_owners 6 = .ok (.getfield 12, 3) := by decide +kernel
theorem dX0_owners_9 : decode cX0_owners 9 = .ok (.getfield 55, 3) := by decide +kernel
theorem dX0_owners_12 : decode cX0_owners 12 = .ok (.if_icmp .ge 32, 3) := by decide +kernel
theorem dX0_owners_15 : decode cX0_owners 15 = .ok (.iload_n 1, 1) := by decide +kernel
theorem dX0_owners_16 : decode cX0_owners 16 = .ok (.iload_n 3, 1) := by decide +kernel
theorem dX0_owners_17 : decode cX0_owners 17 = .ok (.invokestatic 36, 3) := by decide +kernel
theorem dX0_owners_20 : decode cX0_owners 20 = .ok (.iconst 1, 1) := by decide +kernel
theorem dX0_owners_21 : decode cX0_owners 21 = .ok (.if_icmp .ne 17, 3) := by decide +kernel
theorem dX0_owners_24 : decode cX0_owners 24 = .ok (.iload_n 2, 1) := by decide +kernel
theorem dX0_owners_25 : decode cX0_owners 25 = .ok (.iconst 1, 1) := by decide +kernel
theorem dX0_owners_26 : decode cX0_owners 26 = .ok (.aload_n 0, 1) := by decide +kernel
theorem dX0_owners_27 : decode cX0_owners 27 = .ok (.getfield 21, 3) := by decide +kernel
theorem dX0_owners_30 : decode cX0_owners 30 = .ok (.getfield 58, 3) := by decide +kernel
theorem dX0_owners_33 : decode cX0_owners 33 = .ok (.iload_n 3, 1) := by decide +kernel
theorem dX0_owners_34 : decode cX0_owners 34 = .ok (.iaload, 1) := by decide +kernel
theorem dX0_owners_35 : decode cX0_owners 35 = .ok (.ishl, 1) := by decide +kernel
theorem dX0_owners_36 : decode cX0_owners 36 = .ok (.ior, 1) := by decide +kernel
theorem dX0_owners_37 : decode cX0_owners 37 = .ok (.istore_n 2, 1) := by decide +kernel
theorem dX0_owners_38 : decode cX0_owners 38 = .ok (.iinc 3 1, 3) := by decide +kernel
theorem dX0_owners_41 : decode cX0_owners 41 = .ok (.goto (-37), 3) := by decide +kernel
theorem dX0_owners_44 : decode cX0_owners 44 = .ok (.iload_n 2, 1) := by decide +kernel
theorem dX0_owners_45 : decode cX0_owners 45 = .ok (.ireturn, 1) := by decide +kernel
theorem dX0_dutiesOf_0 : decode cX0_dutiesOf 0 = .ok (.iconst 0, 1) := by decide +kernel
theorem dX0_dutiesOf_1 : decode cX0_dutiesOf 1 = .ok (.istore_n 2, 1) := by decide +kernel
theorem dX0_dutiesOf_2 : decode cX0_dutiesOf 2 = .ok (.iconst 0, 1) := by decide +kernel
theorem dX0_dutiesOf_3 : decode cX0_dutiesOf 3 = .ok (.istore_n 3, 1) := by decide +kernel
theorem dX0_dutiesOf_4 : decode cX0_dutiesOf 4 = .ok (.iload_n 3, 1) := by decide +kernel
theorem dX0_dutiesOf_5 : decode cX0_dutiesOf 5 = .ok (.aload_n 0, 1) := by decide +kernel
theorem dX0_dutiesOf_6 : decode cX0_dutiesOf 6 = .ok (.getfield 12, 3) := by decide +kernel
theorem dX0_dutiesOf_9 : decode cX0_dutiesOf 9 = .ok (.getfield 55, 3) := by decide +kernel
theorem dX0_dutiesOf_12 : decode cX0_dutiesOf 12 = .ok (.if_icmp .ge 28, 3) := by decide +kernel
theorem dX0_dutiesOf_15 : decode cX0_dutiesOf 15 = .ok (.aload_n 0, 1) := by decide +kernel
theorem dX0_dutiesOf_16 : decode cX0_dutiesOf 16 = .ok (.getfield 21, 3) := by decide +kernel
theorem dX0_dutiesOf_19 : decode cX0_dutiesOf 19 = .ok (.getfield 58, 3) := by decide +kernel
theorem dX0_dutiesOf_22 : decode cX0_dutiesOf 22 = .ok (.iload_n 3, 1) := by decide +kernel
theorem dX0_dutiesOf_23 : decode cX0_dutiesOf 23 = .ok (.iaload, 1) := by decide +kernel
theorem dX0_dutiesOf_24 : decode cX0_dutiesOf 24 = .ok (.iload_n 1, 1) := by decide +kernel
theorem dX0_dutiesOf_25 : decode cX0_dutiesOf 25 = .ok (.if_icmp .ne 9, 3) := by decide +kernel
theorem dX0_dutiesOf_28 : decode cX0_dutiesOf 28 = .ok (.iload_n 2, 1) := by decide +kernel
theorem dX0_dutiesOf_29 : decode cX0_dutiesOf 29 = .ok (.iconst 1, 1) := by decide +kernel
theorem dX0_dutiesOf_30 : decode cX0_dutiesOf 30 = .ok (.iload_n 3, 1) := by decide +kernel
theorem dX0_dutiesOf_31 : decode cX0_dutiesOf 31 = .ok (.ishl, 1) := by decide +kernel
theorem dX0_dutiesOf_32 : decode cX0_dutiesOf 32 = .ok (.ior, 1) := by decide +kernel
theorem dX0_dutiesOf_33 : decode cX0_dutiesOf 33 = .ok (.istore_n 2, 1) := by decide +kernel
theorem dX0_dutiesOf_34 : decode cX0_dutiesOf 34 = .ok (.iinc 3 1, 3) := by decide +kernel
theorem dX0_dutiesOf_37 : decode cX0_dutiesOf 37 = .ok (.goto (-33), 3) := by decide +kernel
theorem dX0_dutiesOf_40 : decode cX0_dutiesOf 40 = .ok (.iload_n 2, 1) := by decide +kernel
theorem dX0_dutiesOf_41 : decode cX0_dutiesOf 41 = .ok (.ireturn, 1) := by decide +kernel
theorem dX0_passMinute_0 : decode cX0_passMinute 0 = .ok (.aload_n 0, 1) := by decide +kernel
theorem dX0_passMinute_1 : decode cX0_passMinute 1 = .ok (.aload_n 0, 1) := by decide +kernel
theorem dX0_passMinute_2 : decode cX0_passMinute 2 = .ok (.getfield 21, 3) := by decide +kernel
theorem dX0_passMinute_5 : decode cX0_passMinute 5 = .ok (.getfield 76, 3) := by decide +kernel
theorem dX0_passMinute_8 : decode cX0_passMinute 8 = .ok (.invokevirtual 89, 3) := by decide +kernel
theorem dX0_passMinute_11 : decode cX0_passMinute 11 = .ok (.istore_n 1, 1) := by decide +kernel
theorem dX0_passMinute_12 : decode cX0_passMinute 12 = .ok (.iconst 0, 1) := by decide +kernel
theorem dX0_passMinute_13 : decode cX0_passMinute 13 = .ok (.istore_n 2, 1) := by decide +kernel
theorem dX0_passMinute_14 : decode cX0_passMinute 14 = .ok (.iload_n 2, 1) := by decide +kernel
theorem dX0_passMinute_15 : decode cX0_passMinute 15 = .ok (.aload_n 0, 1) := by decide +kernel
theorem dX0_passMinute_16 : decode cX0_passMinute 16 = .ok (.getfield 12, 3) := by decide +kernel
theorem dX0_passMinute_19 : decode cX0_passMinute 19 = .ok (.getfield 92, 3) := by decide +kernel
theorem dX0_passMinute_22 : decode cX0_passMinute 22 = .ok (.if_icmp .ge 50, 3) := by decide +kernel
theorem dX0_passMinute_25 : decode cX0_passMinute 25 = .ok (.aload_n 0, 1) := by decide +kernel
theorem dX0_passMinute_26 : decode cX0_passMinute 26 = .ok (.getfield 21, 3) := by decide +kernel
theorem dX0_passMinute_29 : decode cX0_passMinute 29 = .ok (.getfield 95, 3) := by decide +kernel
theorem dX0_passMinute_32 : decode cX0_passMinute 32 = .ok (.iload_n 2, 1) := by decide +kernel
theorem dX0_passMinute_33 : decode cX0_passMinute 33 = .ok (.dup2, 1) := by decide +kernel
theorem dX0_passMinute_34 : decode cX0_passMinute 34 = .ok (.iaload, 1) := by decide +kernel
theorem dX0_passMinute_35 : decode cX0_passMinute 35 = .ok (.iload_n 1, 1) := by decide +kernel
theorem dX0_passMinute_36 : decode cX0_passMinute 36 = .ok (.iload_n 2, 1) := by decide +kernel
theorem dX0_passMinute_37 : decode cX0_passMinute 37 = .ok (.invokestatic 36, 3) := by decide +kernel
theorem dX0_passMinute_40 : decode cX0_passMinute 40 = .ok (.iadd, 1) := by decide +kernel
theorem dX0_passMinute_41 : decode cX0_passMinute 41 = .ok (.iastore, 1) := by decide +kernel
theorem dX0_passMinute_42 : decode cX0_passMinute 42 = .ok (.aload_n 0, 1) := by decide +kernel
theorem dX0_passMinute_43 : decode cX0_passMinute 43 = .ok (.getfield 21, 3) := by decide +kernel
theorem dX0_passMinute_46 : decode cX0_passMinute 46 = .ok (.getfield 79, 3) := by decide +kernel
theorem dX0_passMinute_49 : decode cX0_passMinute 49 = .ok (.iload_n 2, 1) := by decide +kernel
theorem dX0_passMinute_50 : decode cX0_passMinute 50 = .ok (.iconst 0, 1) := by decide +kernel
theorem dX0_passMinute_51 : decode cX0_passMinute 51 = .ok (.aload_n 0, 1) := by decide +kernel
theorem dX0_passMinute_52 : decode cX0_passMinute 52 = .ok (.getfield 21, 3) := by decide +kernel
theorem dX0_passMinute_55 : decode cX0_passMinute 55 = .ok (.getfield 79, 3) := by decide +kernel
theorem dX0_passMinute_58 : decode cX0_passMinute 58 = .ok (.iload_n 2, 1) := by decide +kernel
theorem dX0_passMinute_59 : decode cX0_passMinute 59 = .ok (.iaload, 1) := by decide +kernel
theorem dX0_passMinute_60 : decode cX0_passMinute 60 = .ok (.iconst 1, 1) := by decide +kernel
theorem dX0_passMinute_61 : decode cX0_passMinute 61 = .ok (.isub, 1) := by decide +kernel
theorem dX0_passMinute_62 : decode cX0_passMinute 62 = .ok (.invokestatic 98, 3) := by decide +kernel
theorem dX0_passMinute_65 : decode cX0_passMinute 65 = .ok (.iastore, 1) := by decide +kernel
theorem dX0_passMinute_66 : decode cX0_passMinute 66 = .ok (.iinc 2 1, 3) := by decide +kernel
theorem dX0_passMinute_69 : decode cX0_passMinute 69 = .ok (.goto (-55), 3) := by decide +kernel
theorem dX0_passMinute_72 : decode cX0_passMinute 72 = .ok (.aload_n 0, 1) := by decide +kernel
theorem dX0_passMinute_73 : decode cX0_passMinute 73 = .ok (.getfield 21, 3) := by decide +kernel
theorem dX0_passMinute_76 : decode cX0_passMinute 76 = .ok (.dup, 1) := by decide +kernel
theorem dX0_passMinute_77 : decode cX0_passMinute 77 = .ok (.getfield 76, 3) := by decide +kernel
theorem dX0_passMinute_80 : decode cX0_passMinute 80 = .ok (.iconst 1, 1) := by decide +kernel
theorem dX0_passMinute_81 : decode cX0_passMinute 81 = .ok (.iadd, 1) := by decide +kernel
theorem dX0_passMinute_82 : decode cX0_passMinute 82 = .ok (.putfield 76, 3) := by decide +kernel
theorem dX0_passMinute_85 : decode cX0_passMinute 85 = .ok (.iload_n 1, 1) := by decide +kernel
theorem dX0_passMinute_86 : decode cX0_passMinute 86 = .ok (.invokestatic 101, 3) := by decide +kernel
theorem dX0_passMinute_89 : decode cX0_passMinute 89 = .ok (.ireturn, 1) := by decide +kernel
theorem dX0_tolledInAll_0 : decode cX0_tolledInAll 0 = .ok (.iconst 0, 1) := by decide +kernel
theorem dX0_tolledInAll_1 : decode cX0_tolledInAll 1 = .ok (.istore_n 1, 1) := by decide +kernel
theorem dX0_tolledInAll_2 : decode cX0_tolledInAll 2 = .ok (.iconst 0, 1) := by decide +kernel
theorem dX0_tolledInAll_3 : decode cX0_tolledInAll 3 = .ok (.istore_n 2, 1) := by decide +kernel
theorem dX0_tolledInAll_4 : decode cX0_tolledInAll 4 = .ok (.iload_n 2, 1) := by decide +kernel
theorem dX0_tolledInAll_5 : decode cX0_tolledInAll 5 = .ok (.aload_n 0, 1) := by decide +kernel
theorem dX0_tolledInAll_6 : decode cX0_tolledInAll 6 = .ok (.getfield 12, 3) := by decide +kernel
theorem dX0_tolledInAll_9 : decode cX0_tolledInAll 9 = .ok (.getfield 92, 3) := by decide +kernel
theorem dX0_tolledInAll_12 : decode cX0_tolledInAll 12 = .ok (.if_icmp .ge 21, 3) := by decide +kernel
theorem dX0_tolledInAll_15 : decode cX0_tolledInAll 15 = .ok (.iload_n 1, 1) := by decide +kernel
theorem dX0_tolledInAll_16 : decode cX0_tolledInAll 16 = .ok (.aload_n 0, 1) := by decide +kernel
theorem dX0_tolledInAll_17 : decode cX0_tolledInAll 17 = .ok (.getfield 21, 3) := by decide +kernel
theorem dX0_tolledInAll_20 : decode cX0_tolledInAll 20 = .ok (.getfield 95, 3) := by decide +kernel
theorem dX0_tolledInAll_23 : decode cX0_tolledInAll 23 = .ok (.iload_n 2, 1) := by decide +kernel
theorem dX0_tolledInAll_24 : decode cX0_tolledInAll 24 = .ok (.iaload, 1) := by decide +kernel
theorem dX0_tolledInAll_25 : decode cX0_tolledInAll 25 = .ok (.iadd, 1) := by decide +kernel
theorem dX0_tolledInAll_26 : decode cX0_tolledInAll 26 = .ok (.istore_n 1, 1) := by decide +kernel
theorem dX0_tolledInAll_27 : decode cX0_tolledInAll 27 = .ok (.iinc 2 1, 3) := by decide +kernel
theorem dX0_tolledInAll_30 : decode cX0_tolledInAll 30 = .ok (.goto (-26), 3) := by decide +kernel
theorem dX0_tolledInAll_33 : decode cX0_tolledInAll 33 = .ok (.iload_n 1, 1) := by decide +kernel
theorem dX0_tolledInAll_34 : decode cX0_tolledInAll 34 = .ok (.ireturn, 1) := by decide +kernel
theorem dX0_worst_0 : decode cX0_worst 0 = .ok (.iconst 0, 1) := by decide +kernel
theorem dX0_worst_1 : decode cX0_worst 1 = .ok (.istore_n 1, 1) := by decide +kernel
theorem dX0_worst_2 : decode cX0_worst 2 = .ok (.bipush (-9), 2) := by decide +kernel
theorem dX0_worst_4 : decode cX0_worst 4 = .ok (.istore_n 2, 1) := by decide +kernel
theorem dX0_worst_5 : decode cX0_worst 5 = .ok (.iconst 0, 1) := by decide +kernel
theorem dX0_worst_6 : decode cX0_worst 6 = .ok (.istore_n 3, 1) := by decide +kernel
theorem dX0_worst_7 : decode cX0_worst 7 = .ok (.iload_n 3, 1) := by decide +kernel
theorem dX0_worst_8 : decode cX0_worst 8 = .ok (.aload_n 0, 1) := by decide +kernel
theorem dX0_worst_9 : decode cX0_worst 9 = .ok (.getfield 12, 3) := by decide +kernel
theorem dX0_worst_12 : decode cX0_worst 12 = .ok (.getfield 92, 3) := by decide +kernel
theorem dX0_worst_15 : decode cX0_worst 15 = .ok (.if_icmp .ge 34, 3) := by decide +kernel
theorem dX0_worst_18 : decode cX0_worst 18 = .ok (.aload_n 0, 1) := by decide +kernel
theorem dX0_worst_19 : decode cX0_worst 19 = .ok (.getfield 21, 3) := by decide +kernel
theorem dX0_worst_22 : decode cX0_worst 22 = .ok (.getfield 95, 3) := by decide +kernel
theorem dX0_worst_25 : decode cX0_worst 25 = .ok (.iload_n 3, 1) := by decide +kernel
theorem dX0_worst_26 : decode cX0_worst 26 = .ok (.iaload, 1) := by decide +kernel
theorem dX0_worst_27 : decode cX0_worst 27 = .ok (.iload_n 1, 1) := by decide +kernel
theorem dX0_worst_28 : decode cX0_worst 28 = .ok (.if_icmp .le 15, 3) := by decide +kernel
theorem dX0_worst_31 : decode cX0_worst 31 = .ok (.aload_n 0, 1) := by decide +kernel
theorem dX0_worst_32 : decode cX0_worst 32 = .ok (.getfield 21, 3) := by decide +kernel
theorem dX0_worst_35 : decode cX0_worst 35 = .ok (.getfield 95, 3) := by decide +kernel
theorem dX0_worst_38 : decode cX0_worst 38 = .ok (.iload_n 3, 1) := by decide +kernel
theorem dX0_worst_39 : decode cX0_worst 39 = .ok (.iaload, 1) := by decide +kernel
theorem dX0_worst_40 : decode cX0_worst 40 = .ok (.istore_n 1, 1) := by decide +kernel
theorem dX0_worst_41 : decode cX0_worst 41 = .ok (.iload_n 3, 1) := by decide +kernel
theorem dX0_worst_42 : decode cX0_worst 42 = .ok (.istore_n 2, 1) := by decide +kernel
theorem dX0_worst_43 : decode cX0_worst 43 = .ok (.iinc 3 1, 3) := by decide +kernel
theorem dX0_worst_46 : decode cX0_worst 46 = .ok (.goto (-39), 3) := by decide +kernel
theorem dX0_worst_49 : decode cX0_worst 49 = .ok (.iload_n 2, 1) := by decide +kernel
theorem dX0_worst_50 : decode cX0_worst 50 = .ok (.ireturn, 1) := by decide +kernel
theorem dX0_nextRung_0 : decode cX0_nextRung 0 = .ok (.aload_n 0, 1) := by decide +kernel
theorem dX0_nextRung_1 : decode cX0_nextRung 1 = .ok (.getfield 21, 3) := by decide +kernel
theorem dX0_nextRung_4 : decode cX0_nextRung 4 = .ok (.getfield 76, 3) := by decide +kernel
theorem dX0_nextRung_7 : decode cX0_nextRung 7 = .ok (.istore_n 1, 1) := by decide +kernel
theorem dX0_nextRung_8 : decode cX0_nextRung 8 = .ok (.iload_n 1, 1) := by decide +kernel
theorem dX0_nextRung_9 : decode cX0_nextRung 9 = .ok (.sipush 240, 3) := by decide +kernel
theorem dX0_nextRung_12 : decode cX0_nextRung 12 = .ok (.if_icmp .ge 19, 3) := by decide +kernel
theorem dX0_nextRung_15 : decode cX0_nextRung 15 = .ok (.aload_n 0, 1) := by decide +kernel
theorem dX0_nextRung_16 : decode cX0_nextRung 16 = .ok (.iload_n 1, 1) := by decide +kernel
theorem dX0_nextRung_17 : decode cX0_nextRung 17 = .ok (.invokevirtual 82, 3) := by decide +kernel
theorem dX0_nextRung_20 : decode cX0_nextRung 20 = .ok (.ifCond .eq 5, 3) := by decide +kernel
theorem dX0_nextRung_23 : decode cX0_nextRung 23 = .ok (.iload_n 1, 1) := by decide +kernel
theorem dX0_nextRung_24 : decode cX0_nextRung 24 = .ok (.ireturn, 1) := by decide +kernel
theorem dX0_nextRung_25 : decode cX0_nextRung 25 = .ok (.iinc 1 1, 3) := by decide +kernel
theorem dX0_nextRung_28 : decode cX0_nextRung 28 = .ok (.goto (-20), 3) := by decide +kernel
theorem dX0_nextRung_31 : decode cX0_nextRung 31 = .ok (.bipush (-9), 2) := by decide +kernel
theorem dX0_nextRung_33 : decode cX0_nextRung 33 = .ok (.ireturn, 1) := by decide +kernel
theorem dX0_chordMinutes_0 : decode cX0_chordMinutes 0 = .ok (.iconst 0, 1) := by decide +kernel
theorem dX0_chordMinutes_1 : decode cX0_chordMinutes 1 = .ok (.istore_n 2, 1) := by decide +kernel
theorem dX0_chordMinutes_2 : decode cX0_chordMinutes 2 = .ok (.aload_n 0, 1) := by decide +kernel
theorem dX0_chordMinutes_3 : decode cX0_chordMinutes 3 = .ok (.getfield 21, 3) := by decide +kernel
theorem dX0_chordMinutes_6 : decode cX0_chordMinutes 6 = .ok (.getfield 76, 3) := by decide +kernel
theorem dX0_chordMinutes_9 : decode cX0_chordMinutes 9 = .ok (.istore_n 3, 1) := by decide +kernel
theorem dX0_chordMinutes_10 : decode cX0_chordMinutes 10 = .ok (.iload_n 3, 1) := by decide +kernel
theorem dX0_chordMinutes_11 : decode cX0_chordMinutes 11 = .ok (.sipush 240, 3) := by decide +kernel
theorem dX0_chordMinutes_14 : decode cX0_chordMinutes 14 = .ok (.if_icmp .ge 21, 3) := by decide +kernel
theorem dX0_chordMinutes_17 : decode cX0_chordMinutes 17 = .ok (.aload_n 0, 1) := by decide +kernel
theorem dX0_chordMinutes_18 : decode cX0_chordMinutes 18 = .ok (.iload_n 3, 1) := by decide +kernel
theorem dX0_chordMinutes_19 : decode cX0_chordMinutes 19 = .ok (.invokevirtual 89, 3) := by decide +kernel
theorem dX0_chordMinutes_22 : decode cX0_chordMinutes 22 = .ok (.iload_n 1, 1) := by decide +kernel
theorem dX0_chordMinutes_23 : decode cX0_chordMinutes 23 = .ok (.if_icmp .ne 6, 3) := by decide +kernel
theorem dX0_chordMinutes_26 : decode cX0_chordMinutes 26 = .ok (.iinc 2 1, 3) := by decide +kernel
theorem dX0_chordMinutes_29 : decode cX0_chordMinutes 29 = .ok (.iinc 3 1, 3) := by decide +kernel
theorem dX0_chordMinutes_32 : decode cX0_chordMinutes 32 = .ok (.goto (-22), 3) := by decide +kernel
theorem dX0_chordMinutes_35 : decode cX0_chordMinutes 35 = .ok (.iload_n 2, 1) := by decide +kernel
theorem dX0_chordMinutes_36 : decode cX0_chordMinutes 36 = .ok (.ireturn, 1) := by decide +kernel
theorem dX0_chordFirst_0 : decode cX0_chordFirst 0 = .ok (.aload_n 0, 1) := by decide +kernel
theorem dX0_chordFirst_1 : decode cX0_chordFirst 1 = .ok (.getfield 21, 3) := by decide +kernel
theorem dX0_chordFirst_4 : decode cX0_chordFirst 4 = .ok (.getfield 76, 3) := by decide +kernel
theorem dX0_chordFirst_7 : decode cX0_chordFirst 7 = .ok (.istore_n 2, 1) := by decide +kernel
theorem dX0_chordFirst_8 : decode cX0_chordFirst 8 = .ok (.iload_n 2, 1) := by decide +kernel
theorem dX0_chordFirst_9 : decode cX0_chordFirst 9 = .ok (.sipush 240, 3) := by decide +kernel
theorem dX0_chordFirst_12 : decode cX0_chordFirst 12 = .ok (.if_icmp .ge 20, 3) := by decide +kernel
theorem dX0_chordFirst_15 : decode cX0_chordFirst 15 = .ok (.aload_n 0, 1) := by decide +kernel
theorem dX0_chordFirst_16 : decode cX0_chordFirst 16 = .ok (.iload_n 2, 1) := by decide +kernel
theorem dX0_chordFirst_17 : decode cX0_chordFirst 17 = .ok (.invokevirtual 89, 3) := by decide +kernel
theorem dX0_chordFirst_20 : decode cX0_chordFirst 20 = .ok (.iload_n 1, 1) := by decide +kernel
theorem dX0_chordFirst_21 : decode cX0_chordFirst 21 = .ok (.if_icmp .ne 5, 3) := by decide +kernel
theorem dX0_chordFirst_24 : decode cX0_chordFirst 24 = .ok (.iload_n 2, 1) := by decide +kernel
theorem dX0_chordFirst_25 : decode cX0_chordFirst 25 = .ok (.ireturn, 1) := by decide +kernel
theorem dX0_chordFirst_26 : decode cX0_chordFirst 26 = .ok (.iinc 2 1, 3) := by decide +kernel
theorem dX0_chordFirst_29 : decode cX0_chordFirst 29 = .ok (.goto (-21), 3) := by decide +kernel
theorem dX0_chordFirst_32 : decode cX0_chordFirst 32 = .ok (.bipush (-9), 2) := by decide +kernel
theorem dX0_chordFirst_34 : decode cX0_chordFirst 34 = .ok (.ireturn, 1) := by decide +kernel
theorem dX0_firstUnlike_0 : decode cX0_firstUnlike 0 = .ok (.iconst 0, 1) := by decide +kernel
theorem dX0_firstUnlike_1 : decode cX0_firstUnlike 1 = .ok (.istore 4, 2) := by decide +kernel
theorem dX0_firstUnlike_3 : decode cX0_firstUnlike 3 = .ok (.iload 4, 2) := by decide +kernel
theorem dX0_firstUnlike_5 : decode cX0_firstUnlike 5 = .ok (.sipush 240, 3) := by decide +kernel
theorem dX0_firstUnlike_8 : decode cX0_firstUnlike 8 = .ok (.if_icmp .ge 31, 3) := by decide +kernel
theorem dX0_firstUnlike_11 : decode cX0_firstUnlike 11 = .ok (.aload_n 0, 1) := by decide +kernel
theorem dX0_firstUnlike_12 : decode cX0_firstUnlike 12 = .ok (.iload_n 2, 1) := by decide +kernel
theorem dX0_firstUnlike_13 : decode cX0_firstUnlike 13 = .ok (.iload_n 1, 1) := by decide +kernel
theorem dX0_firstUnlike_14 : decode cX0_firstUnlike 14 = .ok (.iload 4, 2) := by decide +kernel
theorem dX0_firstUnlike_16 : decode cX0_firstUnlike 16 = .ok (.invokevirtual 106, 3) := by decide +kernel
theorem dX0_firstUnlike_19 : decode cX0_firstUnlike 19 = .ok (.aload_n 0, 1) := by decide +kernel
theorem dX0_firstUnlike_20 : decode cX0_firstUnlike 20 = .ok (.iload_n 3, 1) := by decide +kernel
theorem dX0_firstUnlike_21 : decode cX0_firstUnlike 21 = .ok (.iload_n 1, 1) := by decide +kernel
theorem dX0_firstUnlike_22 : decode cX0_firstUnlike 22 = .ok (.iload 4, 2) := by decide +kernel
theorem dX0_firstUnlike_24 : decode cX0_firstUnlike 24 = .ok (.invokevirtual 106, 3) := by decide +kernel
theorem dX0_firstUnlike_27 : decode cX0_firstUnlike 27 = .ok (.if_icmp .eq 6, 3) := by decide +kernel
theorem dX0_firstUnlike_30 : decode cX0_firstUnlike 30 = .ok (.iload 4, 2) := by decide +kernel
theorem dX0_firstUnlike_32 : decode cX0_firstUnlike 32 = .ok (.ireturn, 1) := by decide +kernel
theorem dX0_firstUnlike_33 : decode cX0_firstUnlike 33 = .ok (.iinc 4 1, 3) := by decide +kernel
theorem dX0_firstUnlike_36 : decode cX0_firstUnlike 36 = .ok (.goto (-33), 3) := by decide +kernel
theorem dX0_firstUnlike_39 : decode cX0_firstUnlike 39 = .ok (.bipush (-9), 2) := by decide +kernel
theorem dX0_firstUnlike_41 : decode cX0_firstUnlike 41 = .ok (.ireturn, 1) := by decide +kernel
theorem dX0_missedAtHome_0 : decode cX0_missedAtHome 0 = .ok (.iconst 0, 1) := by decide +kernel
theorem dX0_missedAtHome_1 : decode cX0_missedAtHome 1 = .ok (.istore_n 3, 1) := by decide +kernel
theorem dX0_missedAtHome_2 : decode cX0_missedAtHome 2 = .ok (.iconst 0, 1) := by decide +kernel
theorem dX0_missedAtHome_3 : decode cX0_missedAtHome 3 = .ok (.istore 4, 2) := by decide +kernel
theorem dX0_missedAtHome_5 : decode cX0_missedAtHome 5 = .ok (.iload 4, 2) := by decide +kernel
theorem dX0_missedAtHome_7 : decode cX0_missedAtHome 7 = .ok (.aload_n 0, 1) := by decide +kernel
theorem dX0_missedAtHome_8 : decode cX0_missedAtHome 8 = .ok (.getfield 12, 3) := by decide +kernel
theorem dX0_missedAtHome_11 : decode cX0_missedAtHome 11 = .ok (.getfield 55, 3) := by decide +kernel
theorem dX0_missedAtHome_14 : decode cX0_missedAtHome 14 = .ok (.if_icmp .ge 58, 3) := by decide +kernel
theorem dX0_missedAtHome_17 : decode cX0_missedAtHome 17 = .ok (.aload_n 0, 1) := by decide +kernel
theorem dX0_missedAtHome_18 : decode cX0_missedAtHome 18 = .ok (.getfield 21, 3) := by decide +kernel
theorem dX0_missedAtHome_21 : decode cX0_missedAtHome 21 = .ok (.getfield 58, 3) := by decide +kernel
theorem dX0_missedAtHome_24 : decode cX0_missedAtHome 24 = .ok (.iload 4, 2) := by decide +kernel
theorem dX0_missedAtHome_26 : decode cX0_missedAtHome 26 = .ok (.iaload, 1) := by decide +kernel
theorem dX0_missedAtHome_27 : decode cX0_missedAtHome 27 = .ok (.iload_n 1, 1) := by decide +kernel
theorem dX0_missedAtHome_28 : decode cX0_missedAtHome 28 = .ok (.if_icmp .ne 38, 3) := by decide +kernel
theorem dX0_missedAtHome_31 : decode cX0_missedAtHome 31 = .ok (.aload_n 0, 1) := by decide +kernel
theorem dX0_missedAtHome_32 : decode cX0_missedAtHome 32 = .ok (.getfield 12, 3) := by decide +kernel
theorem dX0_missedAtHome_35 : decode cX0_missedAtHome 35 = .ok (.getfield 65, 3) := by decide +kernel
theorem dX0_missedAtHome_38 : decode cX0_missedAtHome 38 = .ok (.iload 4, 2) := by decide +kernel
theorem dX0_missedAtHome_40 : decode cX0_missedAtHome 40 = .ok (.iaload, 1) := by decide +kernel
theorem dX0_missedAtHome_41 : decode cX0_missedAtHome 41 = .ok (.aload_n 0, 1) := by decide +kernel
theorem dX0_missedAtHome_42 : decode cX0_missedAtHome 42 = .ok (.getfield 12, 3) := by decide +kernel
theorem dX0_missedAtHome_45 : decode cX0_missedAtHome 45 = .ok (.getfield 109, 3) := by decide +kernel
theorem dX0_missedAtHome_48 : decode cX0_missedAtHome 48 = .ok (.iload_n 1, 1) := by decide +kernel
theorem dX0_missedAtHome_49 : decode cX0_missedAtHome 49 = .ok (.iaload, 1) := by decide +kernel
theorem dX0_missedAtHome_50 : decode cX0_missedAtHome 50 = .ok (.if_icmp .eq 16, 3) := by decide +kernel
theorem dX0_missedAtHome_53 : decode cX0_missedAtHome 53 = .ok (.aload_n 0, 1) := by decide +kernel
theorem dX0_missedAtHome_54 : decode cX0_missedAtHome 54 = .ok (.iload 4, 2) := by decide +kernel
theorem dX0_missedAtHome_56 : decode cX0_missedAtHome 56 = .ok (.iload_n 2, 1) := by decide +kernel
theorem dX0_missedAtHome_57 : decode cX0_missedAtHome 57 = .ok (.invokevirtual 61, 3) := by decide +kernel
theorem dX0_missedAtHome_60 : decode cX0_missedAtHome 60 = .ok (.ifCond .eq 6, 3) := by decide +kernel
theorem dX0_missedAtHome_63 : decode cX0_missedAtHome 63 = .ok (.iinc 3 1, 3) := by decide +kernel
theorem dX0_missedAtHome_66 : decode cX0_missedAtHome 66 = .ok (.iinc 4 1, 3) := by decide +kernel
theorem dX0_missedAtHome_69 : decode cX0_missedAtHome 69 = .ok (.goto (-64), 3) := by decide +kernel
theorem dX0_missedAtHome_72 : decode cX0_missedAtHome 72 = .ok (.iload_n 3, 1) := by decide +kernel
theorem dX0_missedAtHome_73 : decode cX0_missedAtHome 73 = .ok (.ireturn, 1) := by decide +kernel
theorem dX1_init_0 : decode cX1_init 0 = .ok (.aload_n 0, 1) := by decide +kernel
theorem dX1_init_1 : decode cX1_init 1 = .ok (.invokespecial 3, 3) := by decide +kernel
theorem dX1_init_4 : decode cX1_init 4 = .ok (.aload_n 0, 1) := by decide +kernel
theorem dX1_init_5 : decode cX1_init 5 = .ok (.bipush 6, 2) := by decide +kernel
theorem dX1_init_7 : decode cX1_init 7 = .ok (.newarray .int, 2) := by decide +kernel
theorem dX1_init_9 : decode cX1_init 9 = .ok (.putfield 9, 3) := by decide +kernel
theorem dX1_init_12 : decode cX1_init 12 = .ok (.aload_n 0, 1) := by decide +kernel
theorem dX1_init_13 : decode cX1_init 13 = .ok (.bipush 6, 2) := by decide +kernel
theorem dX1_init_15 : decode cX1_init 15 = .ok (.newarray .int, 2) := by decide +kernel
theorem dX1_init_17 : decode cX1_init 17 = .ok (.putfield 15, 3) := by decide +kernel
theorem dX1_init_20 : decode cX1_init 20 = .ok (.aload_n 0, 1) := by decide +kernel
theorem dX1_init_21 : decode cX1_init 21 = .ok (.bipush 6, 2) := by decide +kernel
theorem dX1_init_23 : decode cX1_init 23 = .ok (.newarray .int, 2) := by decide +kernel
theorem dX1_init_25 : decode cX1_init 25 = .ok (.putfield 18, 3) := by decide +kernel
theorem dX1_init_28 : decode cX1_init 28 = .ok (.return_, 1) := by decide +kernel
theorem dX1_add_0 : decode cX1_add 0 = .ok (.aload_n 0, 1) := by decide +kernel
theorem dX1_add_1 : decode cX1_add 1 = .ok (.getfield 21, 3) := by decide +kernel
theorem dX1_add_4 : decode cX1_add 4 = .ok (.bipush 6, 2) := by decide +kernel
theorem dX1_add_6 : decode cX1_add 6 = .ok (.if_icmp .lt 5, 3) := by decide +kernel
theorem dX1_add_9 : decode cX1_add 9 = .ok (.iconst 0, 1) := by decide +kernel
theorem dX1_add_10 : decode cX1_add 10 = .ok (.ireturn, 1) := by decide +kernel
theorem dX1_add_11 : decode cX1_add 11 = .ok (.aload_n 0, 1) := by decide +kernel
theorem dX1_add_12 : decode cX1_add 12 = .ok (.getfield 9, 3) := by decide +kernel
theorem dX1_add_15 : decode cX1_add 15 = .ok (.aload_n 0, 1) := by decide +kernel
theorem dX1_add_16 : decode cX1_add 16 = .ok (.getfield 21, 3) := by decide +kernel
theorem dX1_add_19 : decode cX1_add 19 = .ok (.iload_n 1, 1) := by decide +kernel
theorem dX1_add_20 : decode cX1_add 20 = .ok (.iastore, 1) := by decide +kernel
theorem dX1_add_21 : decode cX1_add 21 = .ok (.aload_n 0, 1) := by decide +kernel
theorem dX1_add_22 : decode cX1_add 22 = .ok (.getfield 15, 3) := by decide +kernel
theorem dX1_add_25 : decode cX1_add 25 = .ok (.aload_n 0, 1) := by decide +kernel
theorem dX1_add_26 : decode cX1_add 26 = .ok (.getfield 21, 3) := by decide +kernel
theorem dX1_add_29 : decode cX1_add 29 = .ok (.iload_n 2, 1) := by decide +kernel
theorem dX1_add_30 : decode cX1_add 30 = .ok (.iastore, 1) := by decide +kernel
theorem dX1_add_31 : decode cX1_add 31 = .ok (.aload_n 0, 1) := by decide +kernel
theorem dX1_add_32 : decode cX1_add 32 = .ok (.getfield 18, 3) := by decide +kernel
theorem dX1_add_35 : decode cX1_add 35 = .ok (.aload_n 0, 1) := by decide +kernel
theorem dX1_add_36 : decode cX1_add 36 = .ok (.getfield 21, 3) := by decide +kernel
theorem dX1_add_39 : decode cX1_add 39 = .ok (.iload_n 3, 1) := by decide +kernel
theorem dX1_add_40 : decode cX1_add 40 = .ok (.iastore, 1) := by decide +kernel
theorem dX1_add_41 : decode cX1_add 41 = .ok (.aload_n 0, 1) := by decide +kernel
theorem dX1_add_42 : decode cX1_add 42 = .ok (.dup, 1) := by decide +kernel
theorem dX1_add_43 : decode cX1_add 43 = .ok (.getfield 21, 3) := by decide +kernel
theorem dX1_add_46 : decode cX1_add 46 = .ok (.iconst 1, 1) := by decide +kernel
theorem dX1_add_47 : decode cX1_add 47 = .ok (.iadd, 1) := by decide +kernel
theorem dX1_add_48 : decode cX1_add 48 = .ok (.putfield 21, 3) := by decide +kernel
theorem dX1_add_51 : decode cX1_add 51 = .ok (.iconst 1, 1) := by decide +kernel
theorem dX1_add_52 : decode cX1_add 52 = .ok (.ireturn, 1) := by decide +kernel
theorem dX1_drop_0 : decode cX1_drop 0 = .ok (.aload_n 0, 1) := by decide +kernel
theorem dX1_drop_1 : decode cX1_drop 1 = .ok (.getfield 21, 3) := by decide +kernel
theorem dX1_drop_4 : decode cX1_drop 4 = .ok (.istore_n 1, 1) := by decide +kernel
theorem dX1_drop_5 : decode cX1_drop 5 = .ok (.aload_n 0, 1) := by decide +kernel
theorem dX1_drop_6 : decode cX1_drop 6 = .ok (.iconst 0, 1) := by decide +kernel
theorem dX1_drop_7 : decode cX1_drop 7 = .ok (.putfield 21, 3) := by decide +kernel
theorem dX1_drop_10 : decode cX1_drop 10 = .ok (.iload_n 1, 1) := by decide +kernel
theorem dX1_drop_11 : decode cX1_drop 11 = .ok (.ireturn, 1) := by decide +kernel
theorem dX1_placesFor_0 : decode cX1_placesFor 0 = .ok (.iconst 0, 1) := by decide +kernel
theorem dX1_placesFor_1 : decode cX1_placesFor 1 = .ok (.istore_n 3, 1) := by decide +kernel
theorem dX1_placesFor_2 : decode cX1_placesFor 2 = .ok (.iconst 0, 1) := by decide +kernel
theorem dX1_placesFor_3 : decode cX1_placesFor 3 = .ok (.istore 4, 2) := by decide +kernel
theorem dX1_placesFor_5 : decode cX1_placesFor 5 = .ok (.iload 4, 2) := by decide +kernel
theorem dX1_placesFor_7 : decode cX1_placesFor 7 = .ok (.aload_n 1, 1) := by decide +kernel
theorem dX1_placesFor_8 : decode cX1_placesFor 8 = .ok (.getfield 25, 3) := by decide +kernel
theorem dX1_placesFor_11 : decode cX1_placesFor 11 = .ok (.getfield 31, 3) := by decide +kernel
theorem dX1_placesFor_14 : decode cX1_placesFor 14 = .ok (.if_icmp .ge 27, 3) := by decide +kernel
theorem dX1_placesFor_17 : decode cX1_placesFor 17 = .ok (.aload_n 0, 1) := by decide +kernel
theorem dX1_placesFor_18 : decode cX1_placesFor 18 = .ok (.aload_n 1, 1) := by decide +kernel
theorem dX1_placesFor_19 : decode cX1_placesFor 19 = .ok (.iload_n 2, 1) := by decide +kernel
theorem dX1_placesFor_20 : decode cX1_placesFor 20 = .ok (.iload 4, 2) := by decide +kernel
theorem dX1_placesFor_22 : decode cX1_placesFor 22 = .ok (.invokevirtual 36, 3) := by decide +kernel
theorem dX1_placesFor_25 : decode cX1_placesFor 25 = .ok (.ifCond .eq 10, 3) := by decide +kernel
theorem dX1_placesFor_28 : decode cX1_placesFor 28 = .ok (.iload_n 3, 1) := by decide +kernel
theorem dX1_placesFor_29 : decode cX1_placesFor 29 = .ok (.iconst 1, 1) := by decide +kernel
theorem dX1_placesFor_30 : decode cX1_placesFor 30 = .ok (.iload 4, 2) := by decide +kernel
theorem dX1_placesFor_32 : decode cX1_placesFor 32 = .ok (.ishl, 1) := by decide +kernel
theorem dX1_placesFor_33 : decode cX1_placesFor 33 = .ok (.ior, 1) := by decide +kernel
theorem dX1_placesFor_34 : decode cX1_placesFor 34 = .ok (.istore_n 3, 1) := by decide +kernel
theorem dX1_placesFor_35 : decode cX1_placesFor 35 = .ok (.iinc 4 1, 3) := by decide +kernel
theorem dX1_placesFor_38 : decode cX1_placesFor 38 = .ok (.goto (-33), 3) := by decide +kernel
theorem dX1_placesFor_41 : decode cX1_placesFor 41 = .ok (.iload_n 3, 1) := by decide +kernel
theorem dX1_placesFor_42 : decode cX1_placesFor 42 = .ok (.ireturn, 1) := by decide +kernel
theorem dX1_fits_0 : decode cX1_fits 0 = .ok (.iconst 0, 1) := by decide +kernel
theorem dX1_fits_1 : decode cX1_fits 1 = .ok (.istore 4, 2) := by decide +kernel
theorem dX1_fits_3 : decode cX1_fits 3 = .ok (.iload 4, 2) := by decide +kernel
theorem dX1_fits_5 : decode cX1_fits 5 = .ok (.aload_n 0, 1) := by decide +kernel
theorem dX1_fits_6 : decode cX1_fits 6 = .ok (.getfield 21, 3) := by decide +kernel
theorem dX1_fits_9 : decode cX1_fits 9 = .ok (.if_icmp .ge 54, 3) := by decide +kernel
theorem dX1_fits_12 : decode cX1_fits 12 = .ok (.aload_n 0, 1) := by decide +kernel
theorem dX1_fits_13 : decode cX1_fits 13 = .ok (.getfield 9, 3) := by decide +kernel
theorem dX1_fits_16 : decode cX1_fits 16 = .ok (.iload 4, 2) := by decide +kernel
theorem dX1_fits_18 : decode cX1_fits 18 = .ok (.iaload, 1) := by decide +kernel
theorem dX1_fits_19 : decode cX1_fits 19 = .ok (.iload_n 2, 1) := by decide +kernel
theorem dX1_fits_20 : decode cX1_fits 20 = .ok (.if_icmp .ne 37, 3) := by decide +kernel
theorem dX1_fits_23 : decode cX1_fits 23 = .ok (.aload_n 1, 1) := by decide +kernel
theorem dX1_fits_24 : decode cX1_fits 24 = .ok (.iload_n 3, 1) := by decide +kernel
theorem dX1_fits_25 : decode cX1_fits 25 = .ok (.iload_n 2, 1) := by decide +kernel
theorem dX1_fits_26 : decode cX1_fits 26 = .ok (.aload_n 0, 1) := by decide +kernel
theorem dX1_fits_27 : decode cX1_fits 27 = .ok (.getfield 15, 3) := by decide +kernel
theorem dX1_fits_30 : decode cX1_fits 30 = .ok (.iload 4, 2) := by decide +kernel
theorem dX1_fits_32 : decode cX1_fits 32 = .ok (.iaload, 1) := by decide +kernel
theorem dX1_fits_33 : decode cX1_fits 33 = .ok (.invokevirtual 40, 3) := by decide +kernel
theorem dX1_fits_36 : decode cX1_fits 36 = .ok (.aload_n 0, 1) := by decide +kernel
theorem dX1_fits_37 : decode cX1_fits 37 = .ok (.getfield 18, 3) := by decide +kernel
theorem dX1_fits_40 : decode cX1_fits 40 = .ok (.iload 4, 2) := by decide +kernel
theorem dX1_fits_42 : decode cX1_fits 42 = .ok (.iaload, 1) := by decide +kernel
theorem dX1_fits_43 : decode cX1_fits 43 = .ok (.iconst 1, 1) := by decide +kernel
theorem dX1_fits_44 : decode cX1_fits 44 = .ok (.if_icmp .ne 7, 3) := by decide +kernel
theorem dX1_fits_47 : decode cX1_fits 47 = .ok (.iconst 1, 1) := by decide +kernel
theorem dX1_fits_48 : decode cX1_fits 48 = .ok (.goto 4, 3) := by decide +kernel
theorem dX1_fits_51 : decode cX1_fits 51 = .ok (.iconst 0, 1) := by decide +kernel
theorem dX1_fits_52 : decode cX1_fits 52 = .ok (.if_icmp .eq 5, 3) := by decide +kernel
theorem dX1_fits_55 : decode cX1_fits 55 = .ok (.iconst 0, 1) := by decide +kernel
theorem dX1_fits_56 : decode cX1_fits 56 = .ok (.ireturn, 1) := by decide +kernel
theorem dX1_fits_57 : decode cX1_fits 57 = .ok (.iinc 4 1, 3) := by decide +kernel
theorem dX1_fits_60 : decode cX1_fits 60 = .ok (.goto (-57), 3) := by decide +kernel
theorem dX1_fits_63 : decode cX1_fits 63 = .ok (.iconst 1, 1) := by decide +kernel
theorem dX1_fits_64 : decode cX1_fits 64 = .ok (.ireturn, 1) := by decide +kernel
theorem dX2_init_0 : decode cX2_init 0 = .ok (.aload_n 0, 1) := by decide +kernel
theorem dX2_init_1 : decode cX2_init 1 = .ok (.invokespecial 3, 3) := by decide +kernel
theorem dX2_init_4 : decode cX2_init 4 = .ok (.aload_n 0, 1) := by decide +kernel
theorem dX2_init_5 : decode cX2_init 5 = .ok (.bipush 10, 2) := by decide +kernel
theorem dX2_init_7 : decode cX2_init 7 = .ok (.anewarray 9, 3) := by decide +kernel
theorem dX2_init_10 : decode cX2_init 10 = .ok (.putfield 11, 3) := by decide +kernel
theorem dX2_init_13 : decode cX2_init 13 = .ok (.iconst 0, 1) := by decide +kernel
theorem dX2_init_14 : decode cX2_init 14 = .ok (.istore_n 1, 1) := by decide +kernel
theorem dX2_init_15 : decode cX2_init 15 = .ok (.iload_n 1, 1) := by decide +kernel
theorem dX2_init_16 : decode cX2_init 16 = .ok (.bipush 10, 2) := by decide +kernel
theorem dX2_init_18 : decode cX2_init 18 = .ok (.if_icmp .ge 22, 3) := by decide +kernel
theorem dX2_init_21 : decode cX2_init 21 = .ok (.aload_n 0, 1) := by decide +kernel
theorem dX2_init_22 : decode cX2_init 22 = .ok (.getfield 11, 3) := by decide +kernel
theorem dX2_init_25 : decode cX2_init 25 = .ok (.iload_n 1, 1) := by decide +kernel
theorem dX2_init_26 : decode cX2_init 26 = .ok (.new 9, 3) := by decide +kernel
theorem dX2_init_29 : decode cX2_init 29 = .ok (.dup, 1) := by decide +kernel
theorem dX2_init_30 : decode cX2_init 30 = .ok (.invokespecial 17, 3) := by decide +kernel
theorem dX2_init_33 : decode cX2_init 33 = .ok (.aastore, 1) := by decide +kernel
theorem dX2_init_34 : decode cX2_init 34 = .ok (.iinc 1 1, 3) := by decide +kernel
theorem dX2_init_37 : decode cX2_init 37 = .ok (.goto (-22), 3) := by decide +kernel
theorem dX2_init_40 : decode cX2_init 40 = .ok (.return_, 1) := by decide +kernel
theorem dX2_remember_0 : decode cX2_remember 0 = .ok (.aload_n 0, 1) := by decide +kernel
theorem dX2_remember_1 : decode cX2_remember 1 = .ok (.getfield 11, 3) := by decide +kernel
theorem dX2_remember_4 : decode cX2_remember 4 = .ok (.aload_n 0, 1) := by decide +kernel
theorem dX2_remember_5 : decode cX2_remember 5 = .ok (.getfield 18, 3) := by decide +kernel
theorem dX2_remember_8 : decode cX2_remember 8 = .ok (.aaload, 1) := by decide +kernel
theorem dX2_remember_9 : decode cX2_remember 9 = .ok (.aload_n 1, 1) := by decide +kernel
theorem dX2_remember_10 : decode cX2_remember 10 = .ok (.invokevirtual 22, 3) := by decide +kernel
theorem dX2_remember_13 : decode cX2_remember 13 = .ok (.aload_n 0, 1) := by decide +kernel
theorem dX2_remember_14 : decode cX2_remember 14 = .ok (.aload_n 0, 1) := by decide +kernel
theorem dX2_remember_15 : decode cX2_remember 15 = .ok (.getfield 18, 3) := by decide +kernel
theorem dX2_remember_18 : decode cX2_remember 18 = .ok (.iconst 1, 1) := by decide +kernel
theorem dX2_remember_19 : decode cX2_remember 19 = .ok (.iadd, 1) := by decide +kernel
theorem dX2_remember_20 : decode cX2_remember 20 = .ok (.bipush 10, 2) := by decide +kernel
theorem dX2_remember_22 : decode cX2_remember 22 = .ok (.irem, 1) := by decide +kernel
theorem dX2_remember_23 : decode cX2_remember 23 = .ok (.putfield 18, 3) := by decide +kernel
theorem dX2_remember_26 : decode cX2_remember 26 = .ok (.aload_n 0, 1) := by decide +kernel
theorem dX2_remember_27 : decode cX2_remember 27 = .ok (.aload_n 0, 1) := by decide +kernel
theorem dX2_remember_28 : decode cX2_remember 28 = .ok (.getfield 26, 3) := by decide +kernel
theorem dX2_remember_31 : decode cX2_remember 31 = .ok (.iconst 1, 1) := by decide +kernel
theorem dX2_remember_32 : decode cX2_remember 32 = .ok (.iadd, 1) := by decide +kernel
theorem dX2_remember_33 : decode cX2_remember 33 = .ok (.bipush 10, 2) := by decide +kernel
theorem dX2_remember_35 : decode cX2_remember 35 = .ok (.invokestatic 29, 3) := by decide +kernel
theorem dX2_remember_38 : decode cX2_remember 38 = .ok (.putfield 26, 3) := by decide +kernel
theorem dX2_remember_41 : decode cX2_remember 41 = .ok (.return_, 1) := by decide +kernel
theorem dX2_restore_0 : decode cX2_restore 0 = .ok (.aload_n 0, 1) := by decide +kernel
theorem dX2_restore_1 : decode cX2_restore 1 = .ok (.getfield 26, 3) := by decide +kernel
theorem dX2_restore_4 : decode cX2_restore 4 = .ok (.ifCond .ne 4, 3) := by decide +kernel
theorem dX2_restore_7 : decode cX2_restore 7 = .ok (.return_, 1) := by decide +kernel
theorem dX2_restore_8 : decode cX2_restore 8 = .ok (.aload_n 0, 1) := by decide +kernel
theorem dX2_restore_9 : decode cX2_restore 9 = .ok (.aload_n 0, 1) := by decide +kernel
theorem dX2_restore_10 : decode cX2_restore 10 = .ok (.getfield 18, 3) := by decide +kernel
theorem dX2_restore_13 : decode cX2_restore 13 = .ok (.bipush 10, 2) := by decide +kernel
theorem dX2_restore_15 : decode cX2_restore 15 = .ok (.iadd, 1) := by decide +kernel
theorem dX2_restore_16 : decode cX2_restore 16 = .ok (.iconst 1, 1) := by decide +kernel
theorem dX2_restore_17 : decode cX2_restore 17 = .ok (.isub, 1) := by decide +kernel
theorem dX2_restore_18 : decode cX2_restore 18 = .ok (.bipush 10, 2) := by decide +kernel
theorem dX2_restore_20 : decode cX2_restore 20 = .ok (.irem, 1) := by decide +kernel
theorem dX2_restore_21 : decode cX2_restore 21 = .ok (.putfield 18, 3) := by decide +kernel
theorem dX2_restore_24 : decode cX2_restore 24 = .ok (.aload_n 0, 1) := by decide +kernel
theorem dX2_restore_25 : decode cX2_restore 25 = .ok (.dup, 1) := by decide +kernel
theorem dX2_restore_26 : decode cX2_restore 26 = .ok (.getfield 26, 3) := by decide +kernel
theorem dX2_restore_29 : decode cX2_restore 29 = .ok (.iconst 1, 1) := by decide +kernel
theorem dX2_restore_30 : decode cX2_restore 30 = .ok (.isub, 1) := by decide +kernel
theorem dX2_restore_31 : decode cX2_restore 31 = .ok (.putfield 26, 3) := by decide +kernel
theorem dX2_restore_34 : decode cX2_restore 34 = .ok (.aload_n 1, 1) := by decide +kernel
theorem dX2_restore_35 : decode cX2_restore 35 = .ok (.aload_n 0, 1) := by decide +kernel
theorem dX2_restore_36 : decode cX2_restore 36 = .ok (.getfield 11, 3) := by decide +kernel
theorem dX2_restore_39 : decode cX2_restore 39 = .ok (.aload_n 0, 1) := by decide +kernel
theorem dX2_restore_40 : decode cX2_restore 40 = .ok (.getfield 18, 3) := by decide +kernel
theorem dX2_restore_43 : decode cX2_restore 43 = .ok (.aaload, 1) := by decide +kernel
theorem dX2_restore_44 : decode cX2_restore 44 = .ok (.invokevirtual 22, 3) := by decide +kernel
theorem dX2_restore_47 : decode cX2_restore 47 = .ok (.return_, 1) := by decide +kernel
theorem dX2_lose_0 : decode cX2_lose 0 = .ok (.aload_n 0, 1) := by decide +kernel
theorem dX2_lose_1 : decode cX2_lose 1 = .ok (.iconst 0, 1) := by decide +kernel
theorem dX2_lose_2 : decode cX2_lose 2 = .ok (.putfield 26, 3) := by decide +kernel
theorem dX2_lose_5 : decode cX2_lose 5 = .ok (.return_, 1) := by decide +kernel
theorem dX3_init_0 : decode cX3_init 0 = .ok (.aload_n 0, 1) := by decide +kernel
theorem dX3_init_1 : decode cX3_init 1 = .ok (.invokespecial 3, 3) := by decide +kernel
theorem dX3_init_4 : decode cX3_init 4 = .ok (.aload_n 0, 1) := by decide +kernel
theorem dX3_init_5 : decode cX3_init 5 = .ok (.iconst 5, 1) := by decide +kernel
theorem dX3_init_6 : decode cX3_init 6 = .ok (.newarray .int, 2) := by decide +kernel
theorem dX3_init_8 : decode cX3_init 8 = .ok (.putfield 9, 3) := by decide +kernel
theorem dX3_init_11 : decode cX3_init 11 = .ok (.aload_n 0, 1) := by decide +kernel
theorem dX3_init_12 : decode cX3_init 12 = .ok (.iconst 5, 1) := by decide +kernel
theorem dX3_init_13 : decode cX3_init 13 = .ok (.newarray .int, 2) := by decide +kernel
theorem dX3_init_15 : decode cX3_init 15 = .ok (.putfield 15, 3) := by decide +kernel
theorem dX3_init_18 : decode cX3_init 18 = .ok (.aload_n 0, 1) := by decide +kernel
theorem dX3_init_19 : decode cX3_init 19 = .ok (.iconst 5, 1) := by decide +kernel
theorem dX3_init_20 : decode cX3_init 20 = .ok (.newarray .int, 2) := by decide +kernel
theorem dX3_init_22 : decode cX3_init 22 = .ok (.putfield 18, 3) := by decide +kernel
theorem dX3_init_25 : decode cX3_init 25 = .ok (.aload_n 0, 1) := by decide +kernel
theorem dX3_init_26 : decode cX3_init 26 = .ok (.bipush 8, 2) := by decide +kernel
theorem dX3_init_28 : decode cX3_init 28 = .ok (.newarray .int, 2) := by decide +kernel
theorem dX3_init_30 : decode cX3_init 30 = .ok (.putfield 21, 3) := by decide +kernel
theorem dX3_init_33 : decode cX3_init 33 = .ok (.return_, 1) := by decide +kernel
theorem dX3_begin_0 : decode cX3_begin 0 = .ok (.aload_n 0, 1) := by decide +kernel
theorem dX3_begin_1 : decode cX3_begin 1 = .ok (.iconst 0, 1) := by decide +kernel
theorem dX3_begin_2 : decode cX3_begin 2 = .ok (.putfield 24, 3) := by decide +kernel
theorem dX3_begin_5 : decode cX3_begin 5 = .ok (.aload_n 0, 1) := by decide +kernel
theorem dX3_begin_6 : decode cX3_begin 6 = .ok (.iconst 0, 1) := by decide +kernel
theorem dX3_begin_7 : decode cX3_begin 7 = .ok (.putfield 28, 3) := by decide +kernel
theorem dX3_begin_10 : decode cX3_begin 10 = .ok (.iconst 0, 1) := by decide +kernel
theorem dX3_begin_11 : decode cX3_begin 11 = .ok (.istore_n 2, 1) := by decide +kernel
theorem dX3_begin_12 : decode cX3_begin 12 = .ok (.iload_n 2, 1) := by decide +kernel
theorem dX3_begin_13 : decode cX3_begin 13 = .ok (.iconst 5, 1) := by decide +kernel
theorem dX3_begin_14 : decode cX3_begin 14 = .ok (.if_icmp .ge 35, 3) := by decide +kernel
theorem dX3_begin_17 : decode cX3_begin 17 = .ok (.aload_n 0, 1) := by decide +kernel
theorem dX3_begin_18 : decode cX3_begin 18 = .ok (.getfield 9, 3) := by decide +kernel
theorem dX3_begin_21 : decode cX3_begin 21 = .ok (.iload_n 2, 1) := by decide +kernel
theorem dX3_begin_22 : decode cX3_begin 22 = .ok (.aload_n 1, 1) := by decide +kernel
theorem dX3_begin_23 : decode cX3_begin 23 = .ok (.getfield 31, 3) := by decide +kernel
theorem dX3_begin_26 : decode cX3_begin 26 = .ok (.iload_n 2, 1) := by decide +kernel
theorem dX3_begin_27 : decode cX3_begin 27 = .ok (.iaload, 1) := by decide +kernel
theorem dX3_begin_28 : decode cX3_begin 28 = .ok (.iastore, 1) := by decide +kernel
theorem dX3_begin_29 : decode cX3_begin 29 = .ok (.aload_n 0, 1) := by decide +kernel
theorem dX3_begin_30 : decode cX3_begin 30 = .ok (.getfield 15, 3) := by decide +kernel
theorem dX3_begin_33 : decode cX3_begin 33 = .ok (.iload_n 2, 1) := by decide +kernel
theorem dX3_begin_34 : decode cX3_begin 34 = .ok (.iconst 0, 1) := by decide +kernel
theorem dX3_begin_35 : decode cX3_begin 35 = .ok (.iastore, 1) := by decide +kernel
theorem dX3_begin_36 : decode cX3_begin 36 = .ok (.aload_n 0, 1) := by decide +kernel
theorem dX3_begin_37 : decode cX3_begin 37 = .ok (.getfield 18, 3) := by decide +kernel
theorem dX3_begin_40 : decode cX3_begin 40 = .ok (.iload_n 2, 1) := by decide +kernel
theorem dX3_begin_41 : decode cX3_begin 41 = .ok (.iconst 0, 1) := by decide +kernel
theorem dX3_begin_42 : decode cX3_begin 42 = .ok (.iastore, 1) := by decide +kernel
theorem dX3_begin_43 : decode cX3_begin 43 = .ok (.iinc 2 1, 3) := by decide +kernel
theorem dX3_begin_46 : decode cX3_begin 46 = .ok (.goto (-34), 3) := by decide +kernel
theorem dX3_begin_49 : decode cX3_begin 49 = .ok (.aload_n 1, 1) := by decide +kernel
theorem dX3_begin_50 : decode cX3_begin 50 = .ok (.getfield 36, 3) := by decide +kernel
theorem dX3_begin_53 : decode cX3_begin 53 = .ok (.iconst 0, 1) := by decide +kernel
theorem dX3_begin_54 : decode cX3_begin 54 = .ok (.aload_n 0, 1) := by decide +kernel
theorem dX3_begin_55 : decode cX3_begin 55 = .ok (.getfield 21, 3) := by decide +kernel
theorem dX3_begin_58 : decode cX3_begin 58 = .ok (.iconst 0, 1) := by decide +kernel
theorem dX3_begin_59 : decode cX3_begin 59 = .ok (.bipush 8, 2) := by decide +kernel
theorem dX3_begin_61 : decode cX3_begin 61 = .ok (.invokestatic 39, 3) := by decide +kernel
theorem dX3_begin_64 : decode cX3_begin 64 = .ok (.return_, 1) := by decide +kernel
theorem dX3_take_0 : decode cX3_take 0 = .ok (.aload_n 0, 1) := by decide +kernel
theorem dX3_take_1 : decode cX3_take 1 = .ok (.aload_n 1, 1) := by decide +kernel
theorem dX3_take_2 : decode cX3_take 2 = .ok (.getfield 24, 3) := by decide +kernel
theorem dX3_take_5 : decode cX3_take 5 = .ok (.putfield 24, 3) := by decide +kernel
theorem dX3_take_8 : decode cX3_take 8 = .ok (.aload_n 0, 1) := by decide +kernel
theorem dX3_take_9 : decode cX3_take 9 = .ok (.aload_n 1, 1) := by decide +kernel
theorem dX3_take_10 : decode cX3_take 10 = .ok (.getfield 28, 3) := by decide +kernel
theorem dX3_take_13 : decode cX3_take 13 = .ok (.putfield 28, 3) := by decide +kernel
theorem dX3_take_16 : decode cX3_take 16 = .ok (.aload_n 1, 1) := by decide +kernel
theorem dX3_take_17 : decode cX3_take 17 = .ok (.getfield 9, 3) := by decide +kernel
theorem dX3_take_20 : decode cX3_take 20 = .ok (.iconst 0, 1) := by decide +kernel
theorem dX3_take_21 : decode cX3_take 21 = .ok (.aload_n 0, 1) := by decide +kernel
theorem dX3_take_22 : decode cX3_take 22 = .ok (.getfield 9, 3) := by decide +kernel
theorem dX3_take_25 : decode cX3_take 25 = .ok (.iconst 0, 1) := by decide +kernel
theorem dX3_take_26 : decode cX3_take 26 = .ok (.iconst 5, 1) := by decide +kernel
theorem dX3_take_27 : decode cX3_take 27 = .ok (.invokestatic 39, 3) := by decide +kernel
theorem dX3_take_30 : decode cX3_take 30 = .ok (.aload_n 1, 1) := by decide +kernel
theorem dX3_take_31 : decode cX3_take 31 = .ok (.getfield 15, 3) := by decide +kernel
theorem dX3_take_34 : decode cX3_take 34 = .ok (.iconst 0, 1) := by decide +kernel
theorem dX3_take_35 : decode cX3_take 35 = .ok (.aload_n 0, 1) := by decide +kernel
theorem dX3_take_36 : decode cX3_take 36 = .ok (.getfield 15, 3) := by decide +kernel
theorem dX3_take_39 : decode cX3_take 39 = .ok (.iconst 0, 1) := by decide +kernel
theorem dX3_take_40 : decode cX3_take 40 = .ok (.iconst 5, 1) := by decide +kernel
theorem dX3_take_41 : decode cX3_take 41 = .ok (.invokestatic 39, 3) := by decide +kernel
theorem dX3_take_44 : decode cX3_take 44 = .ok (.aload_n 1, 1) := by decide +kernel
theorem dX3_take_45 : decode cX3_take 45 = .ok (.getfield 18, 3) := by decide +kernel
theorem dX3_take_48 : decode cX3_take 48 = .ok (.iconst 0, 1) := by decide +kernel
theorem dX3_take_49 : decode cX3_take 49 = .ok (.aload_n 0, 1) := by decide +kernel
theorem dX3_take_50 : decode cX3_take 50 = .ok (.getfield 18, 3) := by decide +kernel
theorem dX3_take_53 : decode cX3_take 53 = .ok (.iconst 0, 1) := by decide +kernel
theorem dX3_take_54 : decode cX3_take 54 = .ok (.iconst 5, 1) := by decide +kernel
theorem dX3_take_55 : decode cX3_take 55 = .ok (.invokestatic 39, 3) := by decide +kernel
theorem dX3_take_58 : decode cX3_take 58 = .ok (.aload_n 1, 1) := by decide +kernel
theorem dX3_take_59 : decode cX3_take 59 = .ok (.getfield 21, 3) := by decide +kernel
theorem dX3_take_62 : decode cX3_take 62 = .ok (.iconst 0, 1) := by decide +kernel
theorem dX3_take_63 : decode cX3_take 63 = .ok (.aload_n 0, 1) := by decide +kernel
theorem dX3_take_64 : decode cX3_take 64 = .ok (.getfield 21, 3) := by decide +kernel
theorem dX3_take_67 : decode cX3_take 67 = .ok (.iconst 0, 1) := by decide +kernel
theorem dX3_take_68 : decode cX3_take 68 = .ok (.bipush 8, 2) := by decide +kernel
theorem dX3_take_70 : decode cX3_take 70 = .ok (.invokestatic 39, 3) := by decide +kernel
theorem dX3_take_73 : decode cX3_take 73 = .ok (.return_, 1) := by decide +kernel
theorem dX4_init_0 : decode cX4_init 0 = .ok (.aload_n 0, 1) := by decide +kernel
theorem dX4_init_1 : decode cX4_init 1 = .ok (.invokespecial 3, 3) := by decide +kernel
theorem dX4_init_4 : decode cX4_init 4 = .ok (.aload_n 0, 1) := by decide +kernel
theorem dX4_init_5 : decode cX4_init 5 = .ok (.iconst 2, 1) := by decide +kernel
theorem dX4_init_6 : decode cX4_init 6 = .ok (.putfield 9, 3) := by decide +kernel
theorem dX4_init_9 : decode cX4_init 9 = .ok (.aload_n 0, 1) := by decide +kernel
theorem dX4_init_10 : decode cX4_init 10 = .ok (.iconst 2, 1) := by decide +kernel
theorem dX4_init_11 : decode cX4_init 11 = .ok (.putfield 15, 3) := by decide +kernel
theorem dX4_init_14 : decode cX4_init 14 = .ok (.aload_n 0, 1) := by decide +kernel
theorem dX4_init_15 : decode cX4_init 15 = .ok (.iconst 3, 1) := by decide +kernel
theorem dX4_init_16 : decode cX4_init 16 = .ok (.putfield 18, 3) := by decide +kernel
theorem dX4_init_19 : decode cX4_init 19 = .ok (.aload_n 0, 1) := by decide +kernel
theorem dX4_init_20 : decode cX4_init 20 = .ok (.iconst 5, 1) := by decide +kernel
theorem dX4_init_21 : decode cX4_init 21 = .ok (.newarray .int, 2) := by decide +kernel
theorem dX4_init_23 : decode cX4_init 23 = .ok (.putfield 21, 3) := by decide +kernel
theorem dX4_init_26 : decode cX4_init 26 = .ok (.aload_n 0, 1) := by decide +kernel
theorem dX4_init_27 : decode cX4_init 27 = .ok (.bipush 8, 2) := by decide +kernel
theorem dX4_init_29 : decode cX4_init 29 = .ok (.newarray .int, 2) := by decide +kernel
theorem dX4_init_31 : decode cX4_init 31 = .ok (.putfield 25, 3) := by decide +kernel
theorem dX4_init_34 : decode cX4_init 34 = .ok (.aload_n 0, 1) := by decide +kernel
theorem dX4_init_35 : decode cX4_init 35 = .ok (.bipush 8, 2) := by decide +kernel
theorem dX4_init_37 : decode cX4_init 37 = .ok (.newarray .int, 2) := by decide +kernel
theorem dX4_init_39 : decode cX4_init 39 = .ok (.putfield 28, 3) := by decide +kernel
theorem dX4_init_42 : decode cX4_init 42 = .ok (.aload_n 0, 1) := by decide +kernel
theorem dX4_init_43 : decode cX4_init 43 = .ok (.bipush 8, 2) := by decide +kernel
theorem dX4_init_45 : decode cX4_init 45 = .ok (.newarray .int, 2) := by decide +kernel
theorem dX4_init_47 : decode cX4_init 47 = .ok (.putfield 31, 3) := by decide +kernel
theorem dX4_init_50 : decode cX4_init 50 = .ok (.aload_n 0, 1) := by decide +kernel
theorem dX4_init_51 : decode cX4_init 51 = .ok (.bipush 8, 2) := by decide +kernel
theorem dX4_init_53 : decode cX4_init 53 = .ok (.newarray .int, 2) := by decide +kernel
theorem dX4_init_55 : decode cX4_init 55 = .ok (.putfield 34, 3) := by decide +kernel
theorem dX4_init_58 : decode cX4_init 58 = .ok (.return_, 1) := by decide +kernel
theorem dX4_reset_0 : decode cX4_reset 0 = .ok (.aload_n 0, 1) := by decide +kernel
theorem dX4_reset_1 : decode cX4_reset 1 = .ok (.iconst 2, 1) := by decide +kernel
theorem dX4_reset_2 : decode cX4_reset 2 = .ok (.putfield 9, 3) := by decide +kernel
theorem dX4_reset_5 : decode cX4_reset 5 = .ok (.aload_n 0, 1) := by decide +kernel
theorem dX4_reset_6 : decode cX4_reset 6 = .ok (.iconst 0, 1) := by decide +kernel
theorem dX4_reset_7 : decode cX4_reset 7 = .ok (.putfield 37, 3) := by decide +kernel
theorem dX4_reset_10 : decode cX4_reset 10 = .ok (.aload_n 0, 1) := by decide +kernel
theorem dX4_reset_11 : decode cX4_reset 11 = .ok (.iconst 0, 1) := by decide +kernel
theorem dX4_reset_12 : decode cX4_reset 12 = .ok (.putfield 40, 3) := by decide +kernel
theorem dX4_reset_15 : decode cX4_reset 15 = .ok (.aload_n 0, 1) := by decide +kernel
theorem dX4_reset_16 : decode cX4_reset 16 = .ok (.iconst 2, 1) := by decide +kernel
theorem dX4_reset_17 : decode cX4_reset 17 = .ok (.putfield 15, 3) := by decide +kernel
theorem dX4_reset_20 : decode cX4_reset 20 = .ok (.aload_n 0, 1) := by decide +kernel
theorem dX4_reset_21 : decode cX4_reset 21 = .ok (.iconst 3, 1) := by decide +kernel
theorem dX4_reset_22 : decode cX4_reset 22 = .ok (.putfield 18, 3) := by decide +kernel
theorem dX4_reset_25 : decode cX4_reset 25 = .ok (.return_, 1) := by decide +kernel
theorem dX4_take_0 : decode cX4_take 0 = .ok (.aload_n 0, 1) := by decide +kernel
theorem dX4_take_1 : decode cX4_take 1 = .ok (.aload_n 1, 1) := by decide +kernel
theorem dX4_take_2 : decode cX4_take 2 = .ok (.getfield 9, 3) := by decide +kernel
theorem dX4_take_5 : decode cX4_take 5 = .ok (.putfield 9, 3) := by decide +kernel
theorem dX4_take_8 : decode cX4_take 8 = .ok (.aload_n 0, 1) := by decide +kernel
theorem dX4_take_9 : decode cX4_take 9 = .ok (.aload_n 1, 1) := by decide +kernel
theorem dX4_take_10 : decode cX4_take 10 = .ok (.getfield 37, 3) := by decide +kernel
theorem dX4_take_13 : decode cX4_take 13 = .ok (.putfield 37, 3) := by decide +kernel
theorem dX4_take_16 : decode cX4_take 16 = .ok (.aload_n 0, 1) := by decide +kernel
theorem dX4_take_17 : decode cX4_take 17 = .ok (.aload_n 1, 1) := by decide +kernel
theorem dX4_take_18 : decode cX4_take 18 = .ok (.getfield 40, 3) := by decide +kernel
theorem dX4_take_21 : decode cX4_take 21 = .ok (.putfield 40, 3) := by decide +kernel
theorem dX4_take_24 : decode cX4_take 24 = .ok (.aload_n 0, 1) := by decide +kernel
theorem dX4_take_25 : decode cX4_take 25 = .ok (.aload_n 1, 1) := by decide +kernel
theorem dX4_take_26 : decode cX4_take 26 = .ok (.getfield 15, 3) := by decide +kernel
theorem dX4_take_29 : decode cX4_take 29 = .ok (.putfield 15, 3) := by decide +kernel
theorem dX4_take_32 : decode cX4_take 32 = .ok (.aload_n 0, 1) := by decide +kernel
theorem dX4_take_33 : decode cX4_take 33 = .ok (.aload_n 1, 1) := by decide +kernel
theorem dX4_take_34 : decode cX4_take 34 = .ok (.getfield 18, 3) := by decide +kernel
theorem dX4_take_37 : decode cX4_take 37 = .ok (.putfield 18, 3) := by decide +kernel
theorem dX4_take_40 : decode cX4_take 40 = .ok (.aload_n 1, 1) := by decide +kernel
theorem dX4_take_41 : decode cX4_take 41 = .ok (.getfield 21, 3) := by decide +kernel
theorem dX4_take_44 : decode cX4_take 44 = .ok (.iconst 0, 1) := by decide +kernel
theorem dX4_take_45 : decode cX4_take 45 = .ok (.aload_n 0, 1) := by decide +kernel
theorem dX4_take_46 : decode cX4_take 46 = .ok (.getfield 21, 3) := by decide +kernel
theorem dX4_take_49 : decode cX4_take 49 = .ok (.iconst 0, 1) := by decide +kernel
theorem dX4_take_50 : decode cX4_take 50 = .ok (.iconst 5, 1) := by decide +kernel
theorem dX4_take_51 : decode cX4_take 51 = .ok (.invokestatic 43, 3) := by decide +kernel
theorem dX4_take_54 : decode cX4_take 54 = .ok (.aload_n 1, 1) := by decide +kernel
theorem dX4_take_55 : decode cX4_take 55 = .ok (.getfield 25, 3) := by decide +kernel
theorem dX4_take_58 : decode cX4_take 58 = .ok (.iconst 0, 1) := by decide +kernel
theorem dX4_take_59 : decode cX4_take 59 = .ok (.aload_n 0, 1) := by decide +kernel
theorem dX4_take_60 : decode cX4_take 60 = .ok (.getfield 25, 3) := by decide +kernel
theorem dX4_take_63 : decode cX4_take 63 = .ok (.iconst 0, 1) := by decide +kernel
theorem dX4_take_64 : decode cX4_take 64 = .ok (.bipush 8, 2) := by decide +kernel
theorem dX4_take_66 : decode cX4_take 66 = .ok (.invokestatic 43, 3) := by decide +kernel
theorem dX4_take_69 : decode cX4_take 69 = .ok (.aload_n 1, 1) := by decide +kernel
theorem dX4_take_70 : decode cX4_take 70 = .ok (.getfield 28, 3) := by decide +kernel
theorem dX4_take_73 : decode cX4_take 73 = .ok (.iconst 0, 1) := by decide +kernel
theorem dX4_take_74 : decode cX4_take 74 = .ok (.aload_n 0, 1) := by decide +kernel
theorem dX4_take_75 : decode cX4_take 75 = .ok (.getfield 28, 3) := by decide +kernel
theorem dX4_take_78 : decode cX4_take 78 = .ok (.iconst 0, 1) := by decide +kernel
theorem dX4_take_79 : decode cX4_take 79 = .ok (.bipush 8, 2) := by decide +kernel
theorem dX4_take_81 : decode cX4_take 81 = .ok (.invokestatic 43, 3) := by decide +kernel
theorem dX4_take_84 : decode cX4_take 84 = .ok (.aload_n 1, 1) := by decide +kernel
theorem dX4_take_85 : decode cX4_take 85 = .ok (.getfield 31, 3) := by decide +kernel
theorem dX4_take_88 : decode cX4_take 88 = .ok (.iconst 0, 1) := by decide +kernel
theorem dX4_take_89 : decode cX4_take 89 = .ok (.aload_n 0, 1) := by decide +kernel
theorem dX4_take_90 : decode cX4_take 90 = .ok (.getfield 31, 3) := by decide +kernel
theorem dX4_take_93 : decode cX4_take 93 = .ok (.iconst 0, 1) := by decide +kernel
theorem dX4_take_94 : decode cX4_take 94 = .ok (.bipush 8, 2) := by decide +kernel
theorem dX4_take_96 : decode cX4_take 96 = .ok (.invokestatic 43, 3) := by decide +kernel
theorem dX4_take_99 : decode cX4_take 99 = .ok (.aload_n 1, 1) := by decide +kernel
theorem dX4_take_100 : decode cX4_take 100 = .ok (.getfield 34, 3) := by decide +kernel
theorem dX4_take_103 : decode cX4_take 103 = .ok (.iconst 0, 1) := by decide +kernel
theorem dX4_take_104 : decode cX4_take 104 = .ok (.aload_n 0, 1) := by decide +kernel
theorem dX4_take_105 : decode cX4_take 105 = .ok (.getfield 34, 3) := by decide +kernel
theorem dX4_take_108 : decode cX4_take 108 = .ok (.iconst 0, 1) := by decide +kernel
theorem dX4_take_109 : decode cX4_take 109 = .ok (.bipush 8, 2) := by decide +kernel
theorem dX4_take_111 : decode cX4_take 111 = .ok (.invokestatic 43, 3) := by decide +kernel
theorem dX4_take_114 : decode cX4_take 114 = .ok (.return_, 1) := by decide +kernel
theorem dX4_isPlace_0 : decode cX4_isPlace 0 = .ok (.iload_n 1, 1) := by decide +kernel
theorem dX4_isPlace_1 : decode cX4_isPlace 1 = .ok (.ifCond .lt 15, 3) := by decide +kernel
theorem dX4_isPlace_4 : decode cX4_isPlace 4 = .ok (.iload_n 1, 1) := by decide +kernel
theorem dX4_isPlace_5 : decode cX4_isPlace 5 = .ok (.aload_n 0, 1) := by decide +kernel
theorem dX4_isPlace_6 : decode cX4_isPlace 6 = .ok (.getfield 9, 3) := by decide +kernel
theorem dX4_isPlace_9 : decode cX4_isPlace 9 = .ok (.if_icmp .ge 7, 3) := by decide +kernel
theorem dX4_isPlace_12 : decode cX4_isPlace 12 = .ok (.iconst 1, 1) := by decide +kernel
theorem dX4_isPlace_13 : decode cX4_isPlace 13 = .ok (.goto 4, 3) := by decide +kernel
theorem dX4_isPlace_16 : decode cX4_isPlace 16 = .ok (.iconst 0, 1) := by decide +kernel
theorem dX4_isPlace_17 : decode cX4_isPlace 17 = .ok (.ireturn, 1) := by decide +kernel
theorem dX4_isPerson_0 : decode cX4_isPerson 0 = .ok (.iload_n 1, 1) := by decide +kernel
theorem dX4_isPerson_1 : decode cX4_isPerson 1 = .ok (.ifCond .lt 15, 3) := by decide +kernel
theorem dX4_isPerson_4 : decode cX4_isPerson 4 = .ok (.iload_n 1, 1) := by decide +kernel
theorem dX4_isPerson_5 : decode cX4_isPerson 5 = .ok (.aload_n 0, 1) := by decide +kernel
theorem dX4_isPerson_6 : decode cX4_isPerson 6 = .ok (.getfield 37, 3) := by decide +kernel
theorem dX4_isPerson_9 : decode cX4_isPerson 9 = .ok (.if_icmp .ge 7, 3) := by decide +kernel
theorem dX4_isPerson_12 : decode cX4_isPerson 12 = .ok (.iconst 1, 1) := by decide +kernel
theorem dX4_isPerson_13 : decode cX4_isPerson 13 = .ok (.goto 4, 3) := by decide +kernel
theorem dX4_isPerson_16 : decode cX4_isPerson 16 = .ok (.iconst 0, 1) := by decide +kernel
theorem dX4_isPerson_17 : decode cX4_isPerson 17 = .ok (.ireturn, 1) := by decide +kernel
theorem dX4_isDuty_0 : decode cX4_isDuty 0 = .ok (.iload_n 1, 1) := by decide +kernel
theorem dX4_isDuty_1 : decode cX4_isDuty 1 = .ok (.ifCond .lt 15, 3) := by decide +kernel
theorem dX4_isDuty_4 : decode cX4_isDuty 4 = .ok (.iload_n 1, 1) := by decide +kernel
theorem dX4_isDuty_5 : decode cX4_isDuty 5 = .ok (.aload_n 0, 1) := by decide +kernel
theorem dX4_isDuty_6 : decode cX4_isDuty 6 = .ok (.getfield 40, 3) := by decide +kernel
theorem dX4_isDuty_9 : decode cX4_isDuty 9 = .ok (.if_icmp .ge 7, 3) := by decide +kernel
theorem dX4_isDuty_12 : decode cX4_isDuty 12 = .ok (.iconst 1, 1) := by decide +kernel
theorem dX4_isDuty_13 : decode cX4_isDuty 13 = .ok (.goto 4, 3) := by decide +kernel
theorem dX4_isDuty_16 : decode cX4_isDuty 16 = .ok (.iconst 0, 1) := by decide +kernel
theorem dX4_isDuty_17 : decode cX4_isDuty 17 = .ok (.ireturn, 1) := by decide +kernel
theorem dX4_isSet_0 : decode cX4_isSet 0 = .ok (.iload_n 1, 1) := by decide +kernel
theorem dX4_isSet_1 : decode cX4_isSet 1 = .ok (.ifCond .lt 17, 3) := by decide +kernel
theorem dX4_isSet_4 : decode cX4_isSet 4 = .ok (.iload_n 1, 1) := by decide +kernel
theorem dX4_isSet_5 : decode cX4_isSet 5 = .ok (.iconst 1, 1) := by decide +kernel
theorem dX4_isSet_6 : decode cX4_isSet 6 = .ok (.aload_n 0, 1) := by decide +kernel
theorem dX4_isSet_7 : decode cX4_isSet 7 = .ok (.getfield 37, 3) := by decide +kernel
theorem dX4_isSet_10 : decode cX4_isSet 10 = .ok (.ishl, 1) := by decide +kernel
theorem dX4_isSet_11 : decode cX4_isSet 11 = .ok (.if_icmp .ge 7, 3) := by decide +kernel
theorem dX4_isSet_14 : decode cX4_isSet 14 = .ok (.iconst 1, 1) := by decide +kernel
theorem dX4_isSet_15 : decode cX4_isSet 15 = .ok (.goto 4, 3) := by decide +kernel
theorem dX4_isSet_18 : decode cX4_isSet 18 = .ok (.iconst 0, 1) := by decide +kernel
theorem dX4_isSet_19 : decode cX4_isSet 19 = .ok (.ireturn, 1) := by decide +kernel
theorem dX4_minutesBetween_0 : decode cX4_minutesBetween 0 = .ok (.aload_n 0, 1) := by decide +kernel
theorem dX4_minutesBetween_1 : decode cX4_minutesBetween 1 = .ok (.getfield 15, 3) := by decide +kernel
theorem dX4_minutesBetween_4 : decode cX4_minutesBetween 4 = .ok (.iload_n 1, 1) := by decide +kernel
theorem dX4_minutesBetween_5 : decode cX4_minutesBetween 5 = .ok (.iload_n 2, 1) := by decide +kernel
theorem dX4_minutesBetween_6 : decode cX4_minutesBetween 6 = .ok (.isub, 1) := by decide +kernel
theorem dX4_minutesBetween_7 : decode cX4_minutesBetween 7 = .ok (.invokestatic 49, 3) := by decide +kernel
theorem dX4_minutesBetween_10 : decode cX4_minutesBetween 10 = .ok (.imul, 1) := by decide +kernel
theorem dX4_minutesBetween_11 : decode cX4_minutesBetween 11 = .ok (.ireturn, 1) := by decide +kernel
theorem dX5_init_0 : decode cX5_init 0 = .ok (.aload_n 0, 1) := by decide +kernel
theorem dX5_init_1 : decode cX5_init 1 = .ok (.invokespecial 1, 3) := by decide +kernel
theorem dX5_init_4 : decode cX5_init 4 = .ok (.return_, 1) := by decide +kernel
theorem dX5_as_0 : decode cX5_as 0 = .ok (.iload_n 1, 1) := by decide +kernel
theorem dX5_as_1 : decode cX5_as 1 = .ok (.tableswitch 70 1 5 #[35, 42, 49, 56, 63], 35) := by decide +kernel
theorem dX5_as_36 : decode cX5_as 36 = .ok (.aload_n 0, 1) := by decide +kernel
theorem dX5_as_37 : decode cX5_as 37 = .ok (.aload_n 2, 1) := by decide +kernel
theorem dX5_as_38 : decode cX5_as 38 = .ok (.iload_n 3, 1) := by decide +kernel
theorem dX5_as_39 : decode cX5_as 39 = .ok (.invokevirtual 7, 3) := by decide +kernel
theorem dX5_as_42 : decode cX5_as 42 = .ok (.ireturn, 1) := by decide +kernel
theorem dX5_as_43 : decode cX5_as 43 = .ok (.aload_n 0, 1) := by decide +kernel
theorem dX5_as_44 : decode cX5_as 44 = .ok (.aload_n 2, 1) := by decide +kernel
theorem dX5_as_45 : decode cX5_as 45 = .ok (.iload_n 3, 1) := by decide +kernel
theorem dX5_as_46 : decode cX5_as 46 = .ok (.invokevirtual 13, 3) := by decide +kernel
theorem dX5_as_49 : decode cX5_as 49 = .ok (.ireturn, 1) := by decide +kernel
theorem dX5_as_50 : decode cX5_as 50 = .ok (.aload_n 0, 1) := by decide +kernel
theorem dX5_as_51 : decode cX5_as 51 = .ok (.aload_n 2, 1) := by decide +kernel
theorem dX5_as_52 : decode cX5_as 52 = .ok (.iload_n 3, 1) := by decide +kernel
theorem dX5_as_53 : decode cX5_as 53 = .ok (.invokevirtual 16, 3) := by decide +kernel
theorem dX5_as_56 : decode cX5_as 56 = .ok (.ireturn, 1) := by decide +kernel
theorem dX5_as_57 : decode cX5_as 57 = .ok (.aload_n 0, 1) := by decide +kernel
theorem dX5_as_58 : decode cX5_as 58 = .ok (.aload_n 2, 1) := by decide +kernel
theorem dX5_as_59 : decode cX5_as 59 = .ok (.iload_n 3, 1) := by decide +kernel
theorem dX5_as_60 : decode cX5_as 60 = .ok (.invokevirtual 19, 3) := by decide +kernel
theorem dX5_as_63 : decode cX5_as 63 = .ok (.ireturn, 1) := by decide +kernel
theorem dX5_as_64 : decode cX5_as 64 = .ok (.aload_n 0, 1) := by decide +kernel
theorem dX5_as_65 : decode cX5_as 65 = .ok (.aload_n 2, 1) := by decide +kernel
theorem dX5_as_66 : decode cX5_as 66 = .ok (.iload_n 3, 1) := by decide +kernel
theorem dX5_as_67 : decode cX5_as 67 = .ok (.invokevirtual 22, 3) := by decide +kernel
theorem dX5_as_70 : decode cX5_as 70 = .ok (.ireturn, 1) := by decide +kernel
theorem dX5_as_71 : decode cX5_as 71 = .ok (.aload_n 0, 1) := by decide +kernel
theorem dX5_as_72 : decode cX5_as 72 = .ok (.aload_n 2, 1) := by decide +kernel
theorem dX5_as_73 : decode cX5_as 73 = .ok (.iload_n 3, 1) := by decide +kernel
theorem dX5_as_74 : decode cX5_as 74 = .ok (.invokevirtual 25, 3) := by decide +kernel
theorem dX5_as_77 : decode cX5_as 77 = .ok (.ireturn, 1) := by decide +kernel
theorem dX5_asDuty_0 : decode cX5_asDuty 0 = .ok (.aload_n 0, 1) := by decide +kernel
theorem dX5_asDuty_1 : decode cX5_asDuty 1 = .ok (.dup, 1) := by decide +kernel
theorem dX5_asDuty_2 : decode cX5_asDuty 2 = .ok (.getfield 28, 3) := by decide +kernel
theorem dX5_asDuty_5 : decode cX5_asDuty 5 = .ok (.lconst 1, 1) := by decide +kernel
theorem dX5_asDuty_6 : decode cX5_asDuty 6 = .ok (.ladd, 1) := by decide +kernel
theorem dX5_asDuty_7 : decode cX5_asDuty 7 = .ok (.putfield 28, 3) := by decide +kernel
theorem dX5_asDuty_10 : decode cX5_asDuty 10 = .ok (.aload_n 1, 1) := by decide +kernel
theorem dX5_asDuty_11 : decode cX5_asDuty 11 = .ok (.getfield 32, 3) := by decide +kernel
theorem dX5_asDuty_14 : decode cX5_asDuty 14 = .ok (.getfield 38, 3) := by decide +kernel
theorem dX5_asDuty_17 : decode cX5_asDuty 17 = .ok (.iload_n 2, 1) := by decide +kernel
theorem dX5_asDuty_18 : decode cX5_asDuty 18 = .ok (.iaload, 1) := by decide +kernel
theorem dX5_asDuty_19 : decode cX5_asDuty 19 = .ok (.ireturn, 1) := by decide +kernel
theorem dX5_asWatch_0 : decode cX5_asWatch 0 = .ok (.aload_n 0, 1) := by decide +kernel
theorem dX5_asWatch_1 : decode cX5_asWatch 1 = .ok (.dup, 1) := by decide +kernel
theorem dX5_asWatch_2 : decode cX5_asWatch 2 = .ok (.getfield 28, 3) := by decide +kernel
theorem dX5_asWatch_5 : decode cX5_asWatch 5 = .ok (.ldc2_w 44, 3) := by decide +kernel
theorem dX5_asWatch_8 : decode cX5_asWatch 8 = .ok (.ladd, 1) := by decide +kernel
theorem dX5_asWatch_9 : decode cX5_asWatch 9 = .ok (.putfield 28, 3) := by decide +kernel
theorem dX5_asWatch_12 : decode cX5_asWatch 12 = .ok (.aload_n 0, 1) := by decide +kernel
theorem dX5_asWatch_13 : decode cX5_asWatch 13 = .ok (.aload_n 1, 1) := by decide +kernel
theorem dX5_asWatch_14 : decode cX5_asWatch 14 = .ok (.iload_n 2, 1) := by decide +kernel
theorem dX5_asWatch_15 : decode cX5_asWatch 15 = .ok (.invokevirtual 25, 3) := by decide +kernel
theorem dX5_asWatch_18 : decode cX5_asWatch 18 = .ok (.aload_n 1, 1) := by decide +kernel
theorem dX5_asWatch_19 : decode cX5_asWatch 19 = .ok (.getfield 32, 3) := by decide +kernel
theorem dX5_asWatch_22 : decode cX5_asWatch 22 = .ok (.getfield 46, 3) := by decide +kernel
theorem dX5_asWatch_25 : decode cX5_asWatch 25 = .ok (.iload_n 2, 1) := by decide +kernel
theorem dX5_asWatch_26 : decode cX5_asWatch 26 = .ok (.iaload, 1) := by decide +kernel
theorem dX5_asWatch_27 : decode cX5_asWatch 27 = .ok (.iadd, 1) := by decide +kernel
theorem dX5_asWatch_28 : decode cX5_asWatch 28 = .ok (.ireturn, 1) := by decide +kernel
theorem dX5_asSchool_0 : decode cX5_asSchool 0 = .ok (.aload_n 0, 1) := by decide +kernel
theorem dX5_asSchool_1 : decode cX5_asSchool 1 = .ok (.dup, 1) := by decide +kernel
theorem dX5_asSchool_2 : decode cX5_asSchool 2 = .ok (.getfield 28, 3) := by decide +kernel
theorem dX5_asSchool_5 : decode cX5_asSchool 5 = .ok (.ldc2_w 49, 3) := by decide +kernel
theorem dX5_asSchool_8 : decode cX5_asSchool 8 = .ok (.ladd, 1) := by decide +kernel
theorem dX5_asSchool_9 : decode cX5_asSchool 9 = .ok (.putfield 28, 3) := by decide +kernel
theorem dX5_asSchool_12 : decode cX5_asSchool 12 = .ok (.aload_n 0, 1) := by decide +kernel
theorem dX5_asSchool_13 : decode cX5_asSchool 13 = .ok (.aload_n 1, 1) := by decide +kernel
theorem dX5_asSchool_14 : decode cX5_asSchool 14 = .ok (.iload_n 2, 1) := by decide +kernel
theorem dX5_asSchool_15 : decode cX5_asSchool 15 = .ok (.invokevirtual 25, 3) := by decide +kernel
theorem dX5_asSchool_18 : decode cX5_asSchool 18 = .ok (.istore_n 3, 1) := by decide +kernel
theorem dX5_asSchool_19 : decode cX5_asSchool 19 = .ok (.aload_n 1, 1) := by decide +kernel
theorem dX5_asSchool_20 : decode cX5_asSchool 20 = .ok (.getfield 51, 3) := by decide +kernel
theorem dX5_asSchool_23 : decode cX5_asSchool 23 = .ok (.getfield 55, 3) := by decide +kernel
theorem dX5_asSchool_26 : decode cX5_asSchool 26 = .ok (.iload_n 2, 1) := by decide +kernel
theorem dX5_asSchool_27 : decode cX5_asSchool 27 = .ok (.invokestatic 61, 3) := by decide +kernel
theorem dX5_asSchool_30 : decode cX5_asSchool 30 = .ok (.iconst 1, 1) := by decide +kernel
theorem dX5_asSchool_31 : decode cX5_asSchool 31 = .ok (.if_icmp .ne 10, 3) := by decide +kernel
theorem dX5_asSchool_34 : decode cX5_asSchool 34 = .ok (.iload_n 3, 1) := by decide +kernel
theorem dX5_asSchool_35 : decode cX5_asSchool 35 = .ok (.bipush 7, 2) := by decide +kernel
theorem dX5_asSchool_37 : decode cX5_asSchool 37 = .ok (.isub, 1) := by decide +kernel
theorem dX5_asSchool_38 : decode cX5_asSchool 38 = .ok (.goto 4, 3) := by decide +kernel
theorem dX5_asSchool_41 : decode cX5_asSchool 41 = .ok (.iload_n 3, 1) := by decide +kernel
theorem dX5_asSchool_42 : decode cX5_asSchool 42 = .ok (.ireturn, 1) := by decide +kernel
theorem dX5_asChurch_0 : decode cX5_asChurch 0 = .ok (.aload_n 0, 1) := by decide +kernel
theorem dX5_asChurch_1 : decode cX5_asChurch 1 = .ok (.dup, 1) := by decide +kernel
theorem dX5_asChurch_2 : decode cX5_asChurch 2 = .ok (.getfield 28, 3) := by decide +kernel
theorem dX5_asChurch_5 : decode cX5_asChurch 5 = .ok (.ldc2_w 67, 3) := by decide +kernel
theorem dX5_asChurch_8 : decode cX5_asChurch 8 = .ok (.ladd, 1) := by decide +kernel
theorem dX5_asChurch_9 : decode cX5_asChurch 9 = .ok (.putfield 28, 3) := by decide +kernel
theorem dX5_asChurch_12 : decode cX5_asChurch 12 = .ok (.iconst 2, 1) := by decide +kernel
theorem dX5_asChurch_13 : decode cX5_asChurch 13 = .ok (.aload_n 0, 1) := by decide +kernel
theorem dX5_asChurch_14 : decode cX5_asChurch 14 = .ok (.aload_n 1, 1) := by decide +kernel
theorem dX5_asChurch_15 : decode cX5_asChurch 15 = .ok (.iload_n 2, 1) := by decide +kernel
theorem dX5_asChurch_16 : decode cX5_asChurch 16 = .ok (.invokevirtual 7, 3) := by decide +kernel
theorem dX5_asChurch_19 : decode cX5_asChurch 19 = .ok (.imul, 1) := by decide +kernel
theorem dX5_asChurch_20 : decode cX5_asChurch 20 = .ok (.ireturn, 1) := by decide +kernel
theorem dX5_asHearth_0 : decode cX5_asHearth 0 = .ok (.aload_n 0, 1) := by decide +kernel
theorem dX5_asHearth_1 : decode cX5_asHearth 1 = .ok (.dup, 1) := by decide +kernel
theorem dX5_asHearth_2 : decode cX5_asHearth 2 = .ok (.getfield 28, 3) := by decide +kernel
theorem dX5_asHearth_5 : decode cX5_asHearth 5 = .ok (.ldc2_w 69, 3) := by decide +kernel
theorem dX5_asHearth_8 : decode cX5_asHearth 8 = .ok (.ladd, 1) := by decide +kernel
theorem dX5_asHearth_9 : decode cX5_asHearth 9 = .ok (.putfield 28, 3) := by decide +kernel
theorem dX5_asHearth_12 : decode cX5_asHearth 12 = .ok (.aload_n 0, 1) := by decide +kernel
theorem dX5_asHearth_13 : decode cX5_asHearth 13 = .ok (.aload_n 1, 1) := by decide +kernel
theorem dX5_asHearth_14 : decode cX5_asHearth 14 = .ok (.iload_n 2, 1) := by decide +kernel
theorem dX5_asHearth_15 : decode cX5_asHearth 15 = .ok (.invokevirtual 13, 3) := by decide +kernel
theorem dX5_asHearth_18 : decode cX5_asHearth 18 = .ok (.iload_n 2, 1) := by decide +kernel
theorem dX5_asHearth_19 : decode cX5_asHearth 19 = .ok (.iadd, 1) := by decide +kernel
theorem dX5_asHearth_20 : decode cX5_asHearth 20 = .ok (.ireturn, 1) := by decide +kernel
theorem dX5_asMarket_0 : decode cX5_asMarket 0 = .ok (.aload_n 0, 1) := by decide +kernel
theorem dX5_asMarket_1 : decode cX5_asMarket 1 = .ok (.dup, 1) := by decide +kernel
theorem dX5_asMarket_2 : decode cX5_asMarket 2 = .ok (.getfield 28, 3) := by decide +kernel
theorem dX5_asMarket_5 : decode cX5_asMarket 5 = .ok (.ldc2_w 71, 3) := by decide +kernel
theorem dX5_asMarket_8 : decode cX5_asMarket 8 = .ok (.ladd, 1) := by decide +kernel
theorem dX5_asMarket_9 : decode cX5_asMarket 9 = .ok (.putfield 28, 3) := by decide +kernel
theorem dX5_asMarket_12 : decode cX5_asMarket 12 = .ok (.aload_n 0, 1) := by decide +kernel
theorem dX5_asMarket_13 : decode cX5_asMarket 13 = .ok (.aload_n 1, 1) := by decide +kernel
theorem dX5_asMarket_14 : decode cX5_asMarket 14 = .ok (.iload_n 2, 1) := by decide +kernel
theorem dX5_asMarket_15 : decode cX5_asMarket 15 = .ok (.invokevirtual 25, 3) := by decide +kernel
theorem dX5_asMarket_18 : decode cX5_asMarket 18 = .ok (.aload_n 1, 1) := by decide +kernel
theorem dX5_asMarket_19 : decode cX5_asMarket 19 = .ok (.getfield 51, 3) := by decide +kernel
theorem dX5_asMarket_22 : decode cX5_asMarket 22 = .ok (.getfield 73, 3) := by decide +kernel
theorem dX5_asMarket_25 : decode cX5_asMarket 25 = .ok (.aload_n 1, 1) := by decide +kernel
theorem dX5_asMarket_26 : decode cX5_asMarket 26 = .ok (.getfield 51, 3) := by decide +kernel
theorem dX5_asMarket_29 : decode cX5_asMarket 29 = .ok (.getfield 76, 3) := by decide +kernel
theorem dX5_asMarket_32 : decode cX5_asMarket 32 = .ok (.iload_n 2, 1) := by decide +kernel
theorem dX5_asMarket_33 : decode cX5_asMarket 33 = .ok (.iaload, 1) := by decide +kernel
theorem dX5_asMarket_34 : decode cX5_asMarket 34 = .ok (.iaload, 1) := by decide +kernel
theorem dX5_asMarket_35 : decode cX5_asMarket 35 = .ok (.iadd, 1) := by decide +kernel
theorem dX5_asMarket_36 : decode cX5_asMarket 36 = .ok (.ireturn, 1) := by decide +kernel
theorem dX6_init_0 : decode cX6_init 0 = .ok (.aload_n 0, 1) := by decide +kernel
theorem dX6_init_1 : decode cX6_init 1 = .ok (.invokespecial 3, 3) := by decide +kernel
theorem dX6_init_4 : decode cX6_init 4 = .ok (.aload_n 0, 1) := by decide +kernel
theorem dX6_init_5 : decode cX6_init 5 = .ok (.sipush 200, 3) := by decide +kernel
theorem dX6_init_8 : decode cX6_init 8 = .ok (.newarray .int, 2) := by decide +kernel
theorem dX6_init_10 : decode cX6_init 10 = .ok (.putfield 9, 3) := by decide +kernel
theorem dX6_init_13 : decode cX6_init 13 = .ok (.aload_n 0, 1) := by decide +kernel
theorem dX6_init_14 : decode cX6_init 14 = .ok (.new 15, 3) := by decide +kernel
theorem dX6_init_17 : decode cX6_init 17 = .ok (.dup, 1) := by decide +kernel
theorem dX6_init_18 : decode cX6_init 18 = .ok (.invokespecial 17, 3) := by decide +kernel
theorem dX6_init_21 : decode cX6_init 21 = .ok (.putfield 18, 3) := by decide +kernel
theorem dX6_init_24 : decode cX6_init 24 = .ok (.aload_n 0, 1) := by decide +kernel
theorem dX6_init_25 : decode cX6_init 25 = .ok (.bipush (-9), 2) := by decide +kernel
theorem dX6_init_27 : decode cX6_init 27 = .ok (.putfield 22, 3) := by decide +kernel
theorem dX6_init_30 : decode cX6_init 30 = .ok (.return_, 1) := by decide +kernel
theorem dX6_addLetter_0 : decode cX6_addLetter 0 = .ok (.aload_n 0, 1) := by decide +kernel
theorem dX6_addLetter_1 : decode cX6_addLetter 1 = .ok (.getfield 26, 3) := by decide +kernel
theorem dX6_addLetter_4 : decode cX6_addLetter 4 = .ok (.sipush 200, 3) := by decide +kernel
theorem dX6_addLetter_7 : decode cX6_addLetter 7 = .ok (.if_icmp .lt 5, 3) := by decide +kernel
theorem dX6_addLetter_10 : decode cX6_addLetter 10 = .ok (.iconst 0, 1) := by decide +kernel
theorem dX6_addLetter_11 : decode cX6_addLetter 11 = .ok (.ireturn, 1) := by decide +kernel
theorem dX6_addLetter_12 : decode cX6_addLetter 12 = .ok (.aload_n 0, 1) := by decide +kernel
theorem dX6_addLetter_13 : decode cX6_addLetter 13 = .ok (.getfield 9, 3) := by decide +kernel
theorem dX6_addLetter_16 : decode cX6_addLetter 16 = .ok (.aload_n 0, 1) := by decide +kernel
theorem dX6_addLetter_17 : decode cX6_addLetter 17 = .ok (.getfield 26, 3) := by decide +kernel
theorem dX6_addLetter_20 : decode cX6_addLetter 20 = .ok (.iload_n 1, 1) := by decide +kernel
theorem dX6_addLetter_21 : decode cX6_addLetter 21 = .ok (.iastore, 1) := by decide +kernel
theorem dX6_addLetter_22 : decode cX6_addLetter 22 = .ok (.aload_n 0, 1) := by decide +kernel
theorem dX6_addLetter_23 : decode cX6_addLetter 23 = .ok (.dup, 1) := by decide +kernel
theorem dX6_addLetter_24 : decode cX6_addLetter 24 = .ok (.getfield 26, 3) := by decide +kernel
theorem dX6_addLetter_27 : decode cX6_addLetter 27 = .ok (.iconst 1, 1) := by decide +kernel
theorem dX6_addLetter_28 : decode cX6_addLetter 28 = .ok (.iadd, 1) := by decide +kernel
theorem dX6_addLetter_29 : decode cX6_addLetter 29 = .ok (.putfield 26, 3) := by decide +kernel
theorem dX6_addLetter_32 : decode cX6_addLetter 32 = .ok (.iconst 1, 1) := by decide +kernel
theorem dX6_addLetter_33 : decode cX6_addLetter 33 = .ok (.ireturn, 1) := by decide +kernel
theorem dX6_dropLetters_0 : decode cX6_dropLetters 0 = .ok (.aload_n 0, 1) := by decide +kernel
theorem dX6_dropLetters_1 : decode cX6_dropLetters 1 = .ok (.getfield 26, 3) := by decide +kernel
theorem dX6_dropLetters_4 : decode cX6_dropLetters 4 = .ok (.istore_n 1, 1) := by decide +kernel
theorem dX6_dropLetters_5 : decode cX6_dropLetters 5 = .ok (.aload_n 0, 1) := by decide +kernel
theorem dX6_dropLetters_6 : decode cX6_dropLetters 6 = .ok (.iconst 0, 1) := by decide +kernel
theorem dX6_dropLetters_7 : decode cX6_dropLetters 7 = .ok (.putfield 26, 3) := by decide +kernel
theorem dX6_dropLetters_10 : decode cX6_dropLetters 10 = .ok (.iload_n 1, 1) := by decide +kernel
theorem dX6_dropLetters_11 : decode cX6_dropLetters 11 = .ok (.ireturn, 1) := by decide +kernel
theorem dX6_hasFault_0 : decode cX6_hasFault 0 = .ok (.aload_n 0, 1) := by decide +kernel
theorem dX6_hasFault_1 : decode cX6_hasFault 1 = .ok (.getfield 22, 3) := by decide +kernel
theorem dX6_hasFault_4 : decode cX6_hasFault 4 = .ok (.bipush (-9), 2) := by decide +kernel
theorem dX6_hasFault_6 : decode cX6_hasFault 6 = .ok (.if_icmp .eq 7, 3) := by decide +kernel
theorem dX6_hasFault_9 : decode cX6_hasFault 9 = .ok (.iconst 1, 1) := by decide +kernel
theorem dX6_hasFault_10 : decode cX6_hasFault 10 = .ok (.goto 4, 3) := by decide +kernel
theorem dX6_hasFault_13 : decode cX6_hasFault 13 = .ok (.iconst 0, 1) := by decide +kernel
theorem dX6_hasFault_14 : decode cX6_hasFault 14 = .ok (.ireturn, 1) := by decide +kernel
theorem dX6_read_0 : decode cX6_read 0 = .ok (.aload_n 0, 1) := by decide +kernel
theorem dX6_read_1 : decode cX6_read 1 = .ok (.getfield 18, 3) := by decide +kernel
theorem dX6_read_4 : decode cX6_read 4 = .ok (.invokevirtual 29, 3) := by decide +kernel
theorem dX6_read_7 : decode cX6_read 7 = .ok (.aload_n 0, 1) := by decide +kernel
theorem dX6_read_8 : decode cX6_read 8 = .ok (.iconst 0, 1) := by decide +kernel
theorem dX6_read_9 : decode cX6_read 9 = .ok (.putfield 32, 3) := by decide +kernel
theorem dX6_read_12 : decode cX6_read 12 = .ok (.aload_n 0, 1) := by decide +kernel
theorem dX6_read_13 : decode cX6_read 13 = .ok (.iconst 0, 1) := by decide +kernel
theorem dX6_read_14 : decode cX6_read 14 = .ok (.putfield 36, 3) := by decide +kernel
theorem dX6_read_17 : decode cX6_read 17 = .ok (.aload_n 0, 1) := by decide +kernel
theorem dX6_read_18 : decode cX6_read 18 = .ok (.bipush (-9), 2) := by decide +kernel
theorem dX6_read_20 : decode cX6_read 20 = .ok (.putfield 22, 3) := by decide +kernel
theorem dX6_read_23 : decode cX6_read 23 = .ok (.aload_n 0, 1) := by decide +kernel
theorem dX6_read_24 : decode cX6_read 24 = .ok (.iconst 0, 1) := by decide +kernel
theorem dX6_read_25 : decode cX6_read 25 = .ok (.putfield 39, 3) := by decide +kernel
theorem dX6_read_28 : decode cX6_read 28 = .ok (.aload_n 0, 1) := by decide +kernel
theorem dX6_read_29 : decode cX6_read 29 = .ok (.invokevirtual 42, 3) := by decide +kernel
theorem dX6_read_32 : decode cX6_read 32 = .ok (.iconst 0, 1) := by decide +kernel
theorem dX6_read_33 : decode cX6_read 33 = .ok (.istore_n 1, 1) := by decide +kernel
theorem dX6_read_34 : decode cX6_read 34 = .ok (.iload_n 1, 1) := by decide +kernel
theorem dX6_read_35 : decode cX6_read 35 = .ok (.sipush 200, 3) := by decide +kernel
theorem dX6_read_38 : decode cX6_read 38 = .ok (.if_icmp .ge 37, 3) := by decide +kernel
theorem dX6_read_41 : decode cX6_read 41 = .ok (.aload_n 0, 1) := by decide +kernel
theorem dX6_read_42 : decode cX6_read 42 = .ok (.getfield 45, 3) := by decide +kernel
theorem dX6_read_45 : decode cX6_read 45 = .ok (.iconst (-1), 1) := by decide +kernel
theorem dX6_read_46 : decode cX6_read 46 = .ok (.if_icmp .eq 29, 3) := by decide +kernel
theorem dX6_read_49 : decode cX6_read 49 = .ok (.aload_n 0, 1) := by decide +kernel
theorem dX6_read_50 : decode cX6_read 50 = .ok (.invokevirtual 48, 3) := by decide +kernel
theorem dX6_read_53 : decode cX6_read 53 = .ok (.ifCond .ne 22, 3) := by decide +kernel
theorem dX6_read_56 : decode cX6_read 56 = .ok (.aload_n 0, 1) := by decide +kernel
theorem dX6_read_57 : decode cX6_read 57 = .ok (.iload_n 1, 1) := by decide +kernel
theorem dX6_read_58 : decode cX6_read 58 = .ok (.ifCond .ne 7, 3) := by decide +kernel
theorem dX6_read_61 : decode cX6_read 61 = .ok (.iconst 1, 1) := by decide +kernel
theorem dX6_read_62 : decode cX6_read 62 = .ok (.goto 4, 3) := by decide +kernel
theorem dX6_read_65 : decode cX6_read 65 = .ok (.iconst 0, 1) := by decide +kernel
theorem dX6_read_66 : decode cX6_read 66 = .ok (.invokevirtual 52, 3) := by decide +kernel
theorem dX6_read_69 : decode cX6_read 69 = .ok (.iinc 1 1, 3) := by decide +kernel
theorem dX6_read_72 : decode cX6_read 72 = .ok (.goto (-38), 3) := by decide +kernel
theorem dX6_read_75 : decode cX6_read 75 = .ok (.iload_n 1, 1) := by decide +kernel
theorem dX6_read_76 : decode cX6_read 76 = .ok (.ireturn, 1) := by decide +kernel
theorem dX6_readItem_0 : decode cX6_readItem 0 = .ok (.aload_n 0, 1) := by decide +kernel
theorem dX6_readItem_1 : decode cX6_readItem 1 = .ok (.getfield 45, 3) := by decide +kernel
theorem dX6_readItem_4 : decode cX6_readItem 4 = .ok (.lookupswitch 88 #[(100, 67), (102, 81), (103, 74), (112, 60), (119, 52)], 52) := by decide +kernel
theorem dX6_readItem_56 : decode cX6_readItem 56 = .ok (.aload_n 0, 1) := by decide +kernel
theorem dX6_readItem_57 : decode cX6_readItem 57 = .ok (.iload_n 1, 1) := by decide +kernel
theorem dX6_readItem_58 : decode cX6_readItem 58 = .ok (.invokevirtual 56, 3) := by decide +kernel
theorem dX6_readItem_61 : decode cX6_readItem 61 = .ok (.goto 35, 3) := by decide +kernel
theorem dX6_readItem_64 : decode cX6_readItem 64 = .ok (.aload_n 0, 1) := by decide +kernel
theorem dX6_readItem_65 : decode cX6_readItem 65 = .ok (.invokevirtual 59, 3) := by decide +kernel
theorem dX6_readItem_68 : decode cX6_readItem 68 = .ok (.goto 28, 3) := by decide +kernel
theorem dX6_readItem_71 : decode cX6_readItem 71 = .ok (.aload_n 0, 1) := by decide +kernel
theorem dX6_readItem_72 : decode cX6_readItem 72 = .ok (.invokevirtual 62, 3) := by decide +kernel
theorem dX6_readItem_75 : decode cX6_readItem 75 = .ok (.goto 21, 3) := by decide +kernel
theorem dX6_readItem_78 : decode cX6_readItem 78 = .ok (.aload_n 0, 1) := by decide +kernel
theorem dX6_readItem_79 : decode cX6_readItem 79 = .ok (.invokevirtual 65, 3) := by decide +kernel
theorem dX6_readItem_82 : decode cX6_readItem 82 = .ok (.goto 14, 3) := by decide +kernel
theorem dX6_readItem_85 : decode cX6_readItem 85 = .ok (.aload_n 0, 1) := by decide +kernel
theorem dX6_readItem_86 : decode cX6_readItem 86 = .ok (.invokevirtual 68, 3) := by decide +kernel
theorem dX6_readItem_89 : decode cX6_readItem 89 = .ok (.goto 7, 3) := by decide +kernel
theorem dX6_readItem_92 : decode cX6_readItem 92 = .ok (.aload_n 0, 1) := by decide +kernel
theorem dX6_readItem_93 : decode cX6_readItem 93 = .ok (.invokevirtual 71, 3) := by decide +kernel
theorem dX6_readItem_96 : decode cX6_readItem 96 = .ok (.aload_n 0, 1) := by decide +kernel
theorem dX6_readItem_97 : decode cX6_readItem 97 = .ok (.getfield 45, 3) := by decide +kernel
theorem dX6_readItem_100 : decode cX6_readItem 100 = .ok (.bipush 59, 2) := by decide +kernel
theorem dX6_readItem_102 : decode cX6_readItem 102 = .ok (.if_icmp .eq 10, 3) := by decide +kernel
theorem dX6_readItem_105 : decode cX6_readItem 105 = .ok (.aload_n 0, 1) := by decide +kernel
theorem dX6_readItem_106 : decode cX6_readItem 106 = .ok (.invokevirtual 71, 3) := by decide +kernel
theorem dX6_readItem_109 : decode cX6_readItem 109 = .ok (.goto 7, 3) := by decide +kernel
theorem dX6_readItem_112 : decode cX6_readItem 112 = .ok (.aload_n 0, 1) := by decide +kernel
theorem dX6_readItem_113 : decode cX6_readItem 113 = .ok (.invokevirtual 42, 3) := by decide +kernel
theorem dX6_readItem_116 : decode cX6_readItem 116 = .ok (.return_, 1) := by decide +kernel
theorem dX6_readPlaces_0 : decode cX6_readPlaces 0 = .ok (.aload_n 0, 1) := by decide +kernel
theorem dX6_readPlaces_1 : decode cX6_readPlaces 1 = .ok (.iload_n 1, 1) := by decide +kernel
theorem dX6_readPlaces_2 : decode cX6_readPlaces 2 = .ok (.invokevirtual 74, 3) := by decide +kernel
theorem dX6_readPlaces_5 : decode cX6_readPlaces 5 = .ok (.aload_n 0, 1) := by decide +kernel
theorem dX6_readPlaces_6 : decode cX6_readPlaces 6 = .ok (.getfield 18, 3) := by decide +kernel
theorem dX6_readPlaces_9 : decode cX6_readPlaces 9 = .ok (.aload_n 0, 1) := by decide +kernel
theorem dX6_readPlaces_10 : decode cX6_readPlaces 10 = .ok (.iconst 2, 1) := by decide +kernel
theorem dX6_readPlaces_11 : decode cX6_readPlaces 11 = .ok (.bipush 6, 2) := by decide +kernel
theorem dX6_readPlaces_13 : decode cX6_readPlaces 13 = .ok (.invokevirtual 77, 3) := by decide +kernel
theorem dX6_readPlaces_16 : decode cX6_readPlaces 16 = .ok (.putfield 81, 3) := by decide +kernel
theorem dX6_readPlaces_19 : decode cX6_readPlaces 19 = .ok (.return_, 1) := by decide +kernel
theorem dX6_readPerson_0 : decode cX6_readPerson 0 = .ok (.aload_n 0, 1) := by decide +kernel
theorem dX6_readPerson_1 : decode cX6_readPerson 1 = .ok (.aload_n 0, 1) := by decide +kernel
theorem dX6_readPerson_2 : decode cX6_readPerson 2 = .ok (.getfield 18, 3) := by decide +kernel
theorem dX6_readPerson_5 : decode cX6_readPerson 5 = .ok (.getfield 84, 3) := by decide +kernel
theorem dX6_readPerson_8 : decode cX6_readPerson 8 = .ok (.iconst 5, 1) := by decide +kernel
theorem dX6_readPerson_9 : decode cX6_readPerson 9 = .ok (.if_icmp .ge 7, 3) := by decide +kernel
theorem dX6_readPerson_12 : decode cX6_readPerson 12 = .ok (.iconst 1, 1) := by decide +kernel
theorem dX6_readPerson_13 : decode cX6_readPerson 13 = .ok (.goto 4, 3) := by decide +kernel
theorem dX6_readPerson_16 : decode cX6_readPerson 16 = .ok (.iconst 0, 1) := by decide +kernel
theorem dX6_readPerson_17 : decode cX6_readPerson 17 = .ok (.invokevirtual 74, 3) := by decide +kernel
theorem dX6_readPerson_20 : decode cX6_readPerson 20 = .ok (.aload_n 0, 1) := by decide +kernel
theorem dX6_readPerson_21 : decode cX6_readPerson 21 = .ok (.iconst 0, 1) := by decide +kernel
theorem dX6_readPerson_22 : decode cX6_readPerson 22 = .ok (.aload_n 0, 1) := by decide +kernel
theorem dX6_readPerson_23 : decode cX6_readPerson 23 = .ok (.getfield 18, 3) := by decide +kernel
theorem dX6_readPerson_26 : decode cX6_readPerson 26 = .ok (.getfield 81, 3) := by decide +kernel
theorem dX6_readPerson_29 : decode cX6_readPerson 29 = .ok (.iconst 1, 1) := by decide +kernel
theorem dX6_readPerson_30 : decode cX6_readPerson 30 = .ok (.isub, 1) := by decide +kernel
theorem dX6_readPerson_31 : decode cX6_readPerson 31 = .ok (.invokevirtual 77, 3) := by decide +kernel
theorem dX6_readPerson_34 : decode cX6_readPerson 34 = .ok (.istore_n 1, 1) := by decide +kernel
theorem dX6_readPerson_35 : decode cX6_readPerson 35 = .ok (.aload_n 0, 1) := by decide +kernel
theorem dX6_readPerson_36 : decode cX6_readPerson 36 = .ok (.invokevirtual 48, 3) := by decide +kernel
theorem dX6_readPerson_39 : decode cX6_readPerson 39 = .ok (.ifCond .ne 32, 3) := by decide +kernel
theorem dX6_readPerson_42 : decode cX6_readPerson 42 = .ok (.aload_n 0, 1) := by decide +kernel
theorem dX6_readPerson_43 : decode cX6_readPerson 43 = .ok (.getfield 18, 3) := by decide +kernel
theorem dX6_readPerson_46 : decode cX6_readPerson 46 = .ok (.getfield 87, 3) := by decide +kernel
theorem dX6_readPerson_49 : decode cX6_readPerson 49 = .ok (.aload_n 0, 1) := by decide +kernel
theorem dX6_readPerson_50 : decode cX6_readPerson 50 = .ok (.getfield 18, 3) := by decide +kernel
theorem dX6_readPerson_53 : decode cX6_readPerson 53 = .ok (.getfield 84, 3) := by decide +kernel
theorem dX6_readPerson_56 : decode cX6_readPerson 56 = .ok (.iload_n 1, 1) := by decide +kernel
theorem dX6_readPerson_57 : decode cX6_readPerson 57 = .ok (.iastore, 1) := by decide +kernel
theorem dX6_readPerson_58 : decode cX6_readPerson 58 = .ok (.aload_n 0, 1) := by decide +kernel
theorem dX6_readPerson_59 : decode cX6_readPerson 59 = .ok (.getfield 18, 3) := by decide +kernel
theorem dX6_readPerson_62 : decode cX6_readPerson 62 = .ok (.dup, 1) := by decide +kernel
theorem dX6_readPerson_63 : decode cX6_readPerson 63 = .ok (.getfield 84, 3) := by decide +kernel
theorem dX6_readPerson_66 : decode cX6_readPerson 66 = .ok (.iconst 1, 1) := by decide +kernel
theorem dX6_readPerson_67 : decode cX6_readPerson 67 = .ok (.iadd, 1) := by decide +kernel
theorem dX6_readPerson_68 : decode cX6_readPerson 68 = .ok (.putfield 84, 3) := by decide +kernel
theorem dX6_readPerson_71 : decode cX6_readPerson 71 = .ok (.return_, 1) := by decide +kernel
theorem dX6_readDuty_0 : decode cX6_readDuty 0 = .ok (.aload_n 0, 1) := by decide +kernel
theorem dX6_readDuty_1 : decode cX6_readDuty 1 = .ok (.aload_n 0, 1) := by decide +kernel
theorem dX6_readDuty_2 : decode cX6_readDuty 2 = .ok (.getfield 18, 3) := by decide +kernel
theorem dX6_readDuty_5 : decode cX6_readDuty 5 = .ok (.getfield 90, 3) := by decide +kernel
theorem dX6_readDuty_8 : decode cX6_readDuty 8 = .ok (.bipush 8, 2) := by decide +kernel
theorem dX6_readDuty_10 : decode cX6_readDuty 10 = .ok (.if_icmp .ge 7, 3) := by decide +kernel
theorem dX6_readDuty_13 : decode cX6_readDuty 13 = .ok (.iconst 1, 1) := by decide +kernel
theorem dX6_readDuty_14 : decode cX6_readDuty 14 = .ok (.goto 4, 3) := by decide +kernel
theorem dX6_readDuty_17 : decode cX6_readDuty 17 = .ok (.iconst 0, 1) := by decide +kernel
theorem dX6_readDuty_18 : decode cX6_readDuty 18 = .ok (.invokevirtual 74, 3) := by decide +kernel
theorem dX6_readDuty_21 : decode cX6_readDuty 21 = .ok (.aload_n 0, 1) := by decide +kernel
theorem dX6_readDuty_22 : decode cX6_readDuty 22 = .ok (.iconst 0, 1) := by decide +kernel
theorem dX6_readDuty_23 : decode cX6_readDuty 23 = .ok (.aload_n 0, 1) := by decide +kernel
theorem dX6_readDuty_24 : decode cX6_readDuty 24 = .ok (.getfield 18, 3) := by decide +kernel
theorem dX6_readDuty_27 : decode cX6_readDuty 27 = .ok (.getfield 84, 3) := by decide +kernel
theorem dX6_readDuty_30 : decode cX6_readDuty 30 = .ok (.iconst 1, 1) := by decide +kernel
theorem dX6_readDuty_31 : decode cX6_readDuty 31 = .ok (.isub, 1) := by decide +kernel
theorem dX6_readDuty_32 : decode cX6_readDuty 32 = .ok (.invokevirtual 77, 3) := by decide +kernel
theorem dX6_readDuty_35 : decode cX6_readDuty 35 = .ok (.istore_n 1, 1) := by decide +kernel
theorem dX6_readDuty_36 : decode cX6_readDuty 36 = .ok (.aload_n 0, 1) := by decide +kernel
theorem dX6_readDuty_37 : decode cX6_readDuty 37 = .ok (.iconst 0, 1) := by decide +kernel
theorem dX6_readDuty_38 : decode cX6_readDuty 38 = .ok (.aload_n 0, 1) := by decide +kernel
theorem dX6_readDuty_39 : decode cX6_readDuty 39 = .ok (.getfield 18, 3) := by decide +kernel
theorem dX6_readDuty_42 : decode cX6_readDuty 42 = .ok (.getfield 81, 3) := by decide +kernel
theorem dX6_readDuty_45 : decode cX6_readDuty 45 = .ok (.iconst 1, 1) := by decide +kernel
theorem dX6_readDuty_46 : decode cX6_readDuty 46 = .ok (.isub, 1) := by decide +kernel
theorem dX6_readDuty_47 : decode cX6_readDuty 47 = .ok (.invokevirtual 77, 3) := by decide +kernel
theorem dX6_readDuty_50 : decode cX6_readDuty 50 = .ok (.istore_n 2, 1) := by decide +kernel
theorem dX6_readDuty_51 : decode cX6_readDuty 51 = .ok (.aload_n 0, 1) := by decide +kernel
theorem dX6_readDuty_52 : decode cX6_readDuty 52 = .ok (.iconst 0, 1) := by decide +kernel
theorem dX6_readDuty_53 : decode cX6_readDuty 53 = .ok (.sipush 239, 3) := by decide +kernel
theorem dX6_readDuty_56 : decode cX6_readDuty 56 = .ok (.invokevirtual 77, 3) := by decide +kernel
theorem dX6_readDuty_59 : decode cX6_readDuty 59 = .ok (.istore_n 3, 1) := by decide +kernel
theorem dX6_readDuty_60 : decode cX6_readDuty 60 = .ok (.aload_n 0, 1) := by decide +kernel
theorem dX6_readDuty_61 : decode cX6_readDuty 61 = .ok (.iconst 1, 1) := by decide +kernel
theorem dX6_readDuty_62 : decode cX6_readDuty 62 = .ok (.bipush 60, 2) := by decide +kernel
theorem dX6_readDuty_64 : decode cX6_readDuty 64 = .ok (.invokevirtual 77, 3) := by decide +kernel
theorem dX6_readDuty_67 : decode cX6_readDuty 67 = .ok (.istore 4, 2) := by decide +kernel
theorem dX6_readDuty_69 : decode cX6_readDuty 69 = .ok (.aload_n 0, 1) := by decide +kernel
theorem dX6_readDuty_70 : decode cX6_readDuty 70 = .ok (.invokevirtual 48, 3) := by decide +kernel
theorem dX6_readDuty_73 : decode cX6_readDuty 73 = .ok (.ifCond .ne 81, 3) := by decide +kernel
theorem dX6_readDuty_76 : decode cX6_readDuty 76 = .ok (.aload_n 0, 1) := by decide +kernel
theorem dX6_readDuty_77 : decode cX6_readDuty 77 = .ok (.getfield 18, 3) := by decide +kernel
theorem dX6_readDuty_80 : decode cX6_readDuty 80 = .ok (.getfield 93, 3) := by decide +kernel
theorem dX6_readDuty_83 : decode cX6_readDuty 83 = .ok (.aload_n 0, 1) := by decide +kernel
theorem dX6_readDuty_84 : decode cX6_readDuty 84 = .ok (.getfield 18, 3) := by decide +kernel
theorem dX6_readDuty_87 : decode cX6_readDuty 87 = .ok (.getfield 90, 3) := by decide +kernel
theorem dX6_readDuty_90 : decode cX6_readDuty 90 = .ok (.iload_n 1, 1) := by decide +kernel
theorem dX6_readDuty_91 : decode cX6_readDuty 91 = .ok (.iastore, 1) := by decide +kernel
theorem dX6_readDuty_92 : decode cX6_readDuty 92 = .ok (.aload_n 0, 1) := by decide +kernel
theorem dX6_readDuty_93 : decode cX6_readDuty 93 = .ok (.getfield 18, 3) := by decide +kernel
theorem dX6_readDuty_96 : decode cX6_readDuty 96 = .ok (.getfield 96, 3) := by decide +kernel
theorem dX6_readDuty_99 : decode cX6_readDuty 99 = .ok (.aload_n 0, 1) := by decide +kernel
theorem dX6_readDuty_100 : decode cX6_readDuty 100 = .ok (.getfield 18, 3) := by decide +kernel
theorem dX6_readDuty_103 : decode cX6_readDuty 103 = .ok (.getfield 90, 3) := by decide +kernel
theorem dX6_readDuty_106 : decode cX6_readDuty 106 = .ok (.iload_n 2, 1) := by decide +kernel
theorem dX6_readDuty_107 : decode cX6_readDuty 107 = .ok (.iastore, 1) := by decide +kernel
theorem dX6_readDuty_108 : decode cX6_readDuty 108 = .ok (.aload_n 0, 1) := by decide +kernel
theorem dX6_readDuty_109 : decode cX6_readDuty 109 = .ok (.getfield 18, 3) := by decide +kernel
theorem dX6_readDuty_112 : decode cX6_readDuty 112 = .ok (.getfield 99, 3) := by decide +kernel
theorem dX6_readDuty_115 : decode cX6_readDuty 115 = .ok (.aload_n 0, 1) := by decide +kernel
theorem dX6_readDuty_116 : decode cX6_readDuty 116 = .ok (.getfield 18, 3) := by decide +kernel
theorem dX6_readDuty_119 : decode cX6_readDuty 119 = .ok (.getfield 90, 3) := by decide +kernel
theorem dX6_readDuty_122 : decode cX6_readDuty 122 = .ok (.iload_n 3, 1) := by decide +kernel
theorem dX6_readDuty_123 : decode cX6_readDuty 123 = .ok (.iastore, 1) := by decide +kernel
theorem dX6_readDuty_124 : decode cX6_readDuty 124 = .ok (.aload_n 0, 1) := by decide +kernel
theorem dX6_readDuty_125 : decode cX6_readDuty 125 = .ok (.getfield 18, 3) := by decide +kernel
theorem dX6_readDuty_128 : decode cX6_readDuty 128 = .ok (.getfield 102, 3) := by decide +kernel
theorem dX6_readDuty_131 : decode cX6_readDuty 131 = .ok (.aload_n 0, 1) := by decide +kernel
theorem dX6_readDuty_132 : decode cX6_readDuty 132 = .ok (.getfield 18, 3) := by decide +kernel
theorem dX6_readDuty_135 : decode cX6_readDuty 135 = .ok (.getfield 90, 3) := by decide +kernel
theorem dX6_readDuty_138 : decode cX6_readDuty 138 = .ok (.iload 4, 2) := by decide +kernel
theorem dX6_readDuty_140 : decode cX6_readDuty 140 = .ok (.iastore, 1) := by decide +kernel
theorem dX6_readDuty_141 : decode cX6_readDuty 141 = .ok (.aload_n 0, 1) := by decide +kernel
theorem dX6_readDuty_142 : decode cX6_readDuty 142 = .ok (.getfield 18, 3) := by decide +kernel
theorem dX6_readDuty_145 : decode cX6_readDuty 145 = .ok (.dup, 1) := by decide +kernel
theorem dX6_readDuty_146 : decode cX6_readDuty 146 = .ok (.getfield 90, 3) := by decide +kernel
theorem dX6_readDuty_149 : decode cX6_readDuty 149 = .ok (.iconst 1, 1) := by decide +kernel
theorem dX6_readDuty_150 : decode cX6_readDuty 150 = .ok (.iadd, 1) := by decide +kernel
theorem dX6_readDuty_151 : decode cX6_readDuty 151 = .ok (.putfield 90, 3) := by decide +kernel
theorem dX6_readDuty_154 : decode cX6_readDuty 154 = .ok (.return_, 1) := by decide +kernel
theorem dX6_readWalk_0 : decode cX6_readWalk 0 = .ok (.aload_n 0, 1) := by decide +kernel
theorem dX6_readWalk_1 : decode cX6_readWalk 1 = .ok (.aload_n 0, 1) := by decide +kernel
theorem dX6_readWalk_2 : decode cX6_readWalk 2 = .ok (.getfield 32, 3) := by decide +kernel
theorem dX6_readWalk_5 : decode cX6_readWalk 5 = .ok (.ifCond .ne 7, 3) := by decide +kernel
theorem dX6_readWalk_8 : decode cX6_readWalk 8 = .ok (.iconst 1, 1) := by decide +kernel
theorem dX6_readWalk_9 : decode cX6_readWalk 9 = .ok (.goto 4, 3) := by decide +kernel
theorem dX6_readWalk_12 : decode cX6_readWalk 12 = .ok (.iconst 0, 1) := by decide +kernel
theorem dX6_readWalk_13 : decode cX6_readWalk 13 = .ok (.invokevirtual 74, 3) := by decide +kernel
theorem dX6_readWalk_16 : decode cX6_readWalk 16 = .ok (.aload_n 0, 1) := by decide +kernel
theorem dX6_readWalk_17 : decode cX6_readWalk 17 = .ok (.iconst 1, 1) := by decide +kernel
theorem dX6_readWalk_18 : decode cX6_readWalk 18 = .ok (.putfield 32, 3) := by decide +kernel
theorem dX6_readWalk_21 : decode cX6_readWalk 21 = .ok (.aload_n 0, 1) := by decide +kernel
theorem dX6_readWalk_22 : decode cX6_readWalk 22 = .ok (.getfield 18, 3) := by decide +kernel
theorem dX6_readWalk_25 : decode cX6_readWalk 25 = .ok (.aload_n 0, 1) := by decide +kernel
theorem dX6_readWalk_26 : decode cX6_readWalk 26 = .ok (.iconst 1, 1) := by decide +kernel
theorem dX6_readWalk_27 : decode cX6_readWalk 27 = .ok (.bipush 9, 2) := by decide +kernel
theorem dX6_readWalk_29 : decode cX6_readWalk 29 = .ok (.invokevirtual 77, 3) := by decide +kernel
theorem dX6_readWalk_32 : decode cX6_readWalk 32 = .ok (.putfield 105, 3) := by decide +kernel
theorem dX6_readWalk_35 : decode cX6_readWalk 35 = .ok (.return_, 1) := by decide +kernel
theorem dX6_readFree_0 : decode cX6_readFree 0 = .ok (.aload_n 0, 1) := by decide +kernel
theorem dX6_readFree_1 : decode cX6_readFree 1 = .ok (.aload_n 0, 1) := by decide +kernel
theorem dX6_readFree_2 : decode cX6_readFree 2 = .ok (.getfield 36, 3) := by decide +kernel
theorem dX6_readFree_5 : decode cX6_readFree 5 = .ok (.ifCond .ne 7, 3) := by decide +kernel
theorem dX6_readFree_8 : decode cX6_readFree 8 = .ok (.iconst 1, 1) := by decide +kernel
theorem dX6_readFree_9 : decode cX6_readFree 9 = .ok (.goto 4, 3) := by decide +kernel
theorem dX6_readFree_12 : decode cX6_readFree 12 = .ok (.iconst 0, 1) := by decide +kernel
theorem dX6_readFree_13 : decode cX6_readFree 13 = .ok (.invokevirtual 74, 3) := by decide +kernel
theorem dX6_readFree_16 : decode cX6_readFree 16 = .ok (.aload_n 0, 1) := by decide +kernel
theorem dX6_readFree_17 : decode cX6_readFree 17 = .ok (.iconst 1, 1) := by decide +kernel
theorem dX6_readFree_18 : decode cX6_readFree 18 = .ok (.putfield 36, 3) := by decide +kernel
theorem dX6_readFree_21 : decode cX6_readFree 21 = .ok (.aload_n 0, 1) := by decide +kernel
theorem dX6_readFree_22 : decode cX6_readFree 22 = .ok (.getfield 18, 3) := by decide +kernel
theorem dX6_readFree_25 : decode cX6_readFree 25 = .ok (.aload_n 0, 1) := by decide +kernel
theorem dX6_readFree_26 : decode cX6_readFree 26 = .ok (.iconst 0, 1) := by decide +kernel
theorem dX6_readFree_27 : decode cX6_readFree 27 = .ok (.bipush 9, 2) := by decide +kernel
theorem dX6_readFree_29 : decode cX6_readFree 29 = .ok (.invokevirtual 77, 3) := by decide +kernel
theorem dX6_readFree_32 : decode cX6_readFree 32 = .ok (.putfield 108, 3) := by decide +kernel
theorem dX6_readFree_35 : decode cX6_readFree 35 = .ok (.return_, 1) := by decide +kernel
theorem dX6_readWord_0 : decode cX6_readWord 0 = .ok (.iload_n 1, 1) := by decide +kernel
theorem dX6_readWord_1 : decode cX6_readWord 1 = .ok (.ifCond .eq 10, 3) := by decide +kernel
theorem dX6_readWord_4 : decode cX6_readWord 4 = .ok (.aload_n 0, 1) := by decide +kernel
theorem dX6_readWord_5 : decode cX6_readWord 5 = .ok (.invokevirtual 42, 3) := by decide +kernel
theorem dX6_readWord_8 : decode cX6_readWord 8 = .ok (.goto 7, 3) := by decide +kernel
theorem dX6_readWord_11 : decode cX6_readWord 11 = .ok (.aload_n 0, 1) := by decide +kernel
theorem dX6_readWord_12 : decode cX6_readWord 12 = .ok (.invokevirtual 71, 3) := by decide +kernel
theorem dX6_readWord_15 : decode cX6_readWord 15 = .ok (.return_, 1) := by decide +kernel
theorem dX6_readNumber_0 : decode cX6_readNumber 0 = .ok (.aload_n 0, 1) := by decide +kernel
theorem dX6_readNumber_1 : decode cX6_readNumber 1 = .ok (.invokevirtual 48, 3) := by decide +kernel
theorem dX6_readNumber_4 : decode cX6_readNumber 4 = .ok (.ifCond .eq 5, 3) := by decide +kernel
theorem dX6_readNumber_7 : decode cX6_readNumber 7 = .ok (.iload_n 1, 1) := by decide +kernel
theorem dX6_readNumber_8 : decode cX6_readNumber 8 = .ok (.ireturn, 1) := by decide +kernel
theorem dX6_readNumber_9 : decode cX6_readNumber 9 = .ok (.aload_n 0, 1) := by decide +kernel
theorem dX6_readNumber_10 : decode cX6_readNumber 10 = .ok (.getfield 45, 3) := by decide +kernel
theorem dX6_readNumber_13 : decode cX6_readNumber 13 = .ok (.bipush (-2), 2) := by decide +kernel
theorem dX6_readNumber_15 : decode cX6_readNumber 15 = .ok (.if_icmp .ne 19, 3) := by decide +kernel
theorem dX6_readNumber_18 : decode cX6_readNumber 18 = .ok (.aload_n 0, 1) := by decide +kernel
theorem dX6_readNumber_19 : decode cX6_readNumber 19 = .ok (.getfield 111, 3) := by decide +kernel
theorem dX6_readNumber_22 : decode cX6_readNumber 22 = .ok (.iload_n 1, 1) := by decide +kernel
theorem dX6_readNumber_23 : decode cX6_readNumber 23 = .ok (.if_icmp .lt 11, 3) := by decide +kernel
theorem dX6_readNumber_26 : decode cX6_readNumber 26 = .ok (.aload_n 0, 1) := by decide +kernel
theorem dX6_readNumber_27 : decode cX6_readNumber 27 = .ok (.getfield 111, 3) := by decide +kernel
theorem dX6_readNumber_30 : decode cX6_readNumber 30 = .ok (.iload_n 2, 1) := by decide +kernel
theorem dX6_readNumber_31 : decode cX6_readNumber 31 = .ok (.if_icmp .le 9, 3) := by decide +kernel
theorem dX6_readNumber_34 : decode cX6_readNumber 34 = .ok (.aload_n 0, 1) := by decide +kernel
theorem dX6_readNumber_35 : decode cX6_readNumber 35 = .ok (.invokevirtual 71, 3) := by decide +kernel
theorem dX6_readNumber_38 : decode cX6_readNumber 38 = .ok (.iload_n 1, 1) := by decide +kernel
theorem dX6_readNumber_39 : decode cX6_readNumber 39 = .ok (.ireturn, 1) := by decide +kernel
theorem dX6_readNumber_40 : decode cX6_readNumber 40 = .ok (.aload_n 0, 1) := by decide +kernel
theorem dX6_readNumber_41 : decode cX6_readNumber 41 = .ok (.getfield 111, 3) := by decide +kernel
theorem dX6_readNumber_44 : decode cX6_readNumber 44 = .ok (.istore_n 3, 1) := by decide +kernel
theorem dX6_readNumber_45 : decode cX6_readNumber 45 = .ok (.aload_n 0, 1) := by decide +kernel
theorem dX6_readNumber_46 : decode cX6_readNumber 46 = .ok (.invokevirtual 42, 3) := by decide +kernel
theorem dX6_readNumber_49 : decode cX6_readNumber 49 = .ok (.iload_n 3, 1) := by decide +kernel
theorem dX6_readNumber_50 : decode cX6_readNumber 50 = .ok (.ireturn, 1) := by decide +kernel
theorem dX6_refuseToken_0 : decode cX6_refuseToken 0 = .ok (.aload_n 0, 1) := by decide +kernel
theorem dX6_refuseToken_1 : decode cX6_refuseToken 1 = .ok (.invokevirtual 48, 3) := by decide +kernel
theorem dX6_refuseToken_4 : decode cX6_refuseToken 4 = .ok (.ifCond .ne 11, 3) := by decide +kernel
theorem dX6_refuseToken_7 : decode cX6_refuseToken 7 = .ok (.aload_n 0, 1) := by decide +kernel
theorem dX6_refuseToken_8 : decode cX6_refuseToken 8 = .ok (.aload_n 0, 1) := by decide +kernel
theorem dX6_refuseToken_9 : decode cX6_refuseToken 9 = .ok (.getfield 114, 3) := by decide +kernel
theorem dX6_refuseToken_12 : decode cX6_refuseToken 12 = .ok (.putfield 22, 3) := by decide +kernel
theorem dX6_refuseToken_15 : decode cX6_refuseToken 15 = .ok (.return_, 1) := by decide +kernel
theorem dX6_nextToken_0 : decode cX6_nextToken 0 = .ok (.aload_n 0, 1) := by decide +kernel
theorem dX6_nextToken_1 : decode cX6_nextToken 1 = .ok (.getfield 39, 3) := by decide +kernel
theorem dX6_nextToken_4 : decode cX6_nextToken 4 = .ok (.aload_n 0, 1) := by decide +kernel
theorem dX6_nextToken_5 : decode cX6_nextToken 5 = .ok (.getfield 26, 3) := by decide +kernel
theorem dX6_nextToken_8 : decode cX6_nextToken 8 = .ok (.if_icmp .ge 30, 3) := by decide +kernel
theorem dX6_nextToken_11 : decode cX6_nextToken 11 = .ok (.aload_n 0, 1) := by decide +kernel
theorem dX6_nextToken_12 : decode cX6_nextToken 12 = .ok (.getfield 9, 3) := by decide +kernel
theorem dX6_nextToken_15 : decode cX6_nextToken 15 = .ok (.aload_n 0, 1) := by decide +kernel
theorem dX6_nextToken_16 : decode cX6_nextToken 16 = .ok (.getfield 39, 3) := by decide +kernel
theorem dX6_nextToken_19 : decode cX6_nextToken 19 = .ok (.iaload, 1) := by decide +kernel
theorem dX6_nextToken_20 : decode cX6_nextToken 20 = .ok (.bipush 32, 2) := by decide +kernel
theorem dX6_nextToken_22 : decode cX6_nextToken 22 = .ok (.if_icmp .ne 16, 3) := by decide +kernel
theorem dX6_nextToken_25 : decode cX6_nextToken 25 = .ok (.aload_n 0, 1) := by decide +kernel
theorem dX6_nextToken_26 : decode cX6_nextToken 26 = .ok (.dup, 1) := by decide +kernel
theorem dX6_nextToken_27 : decode cX6_nextToken 27 = .ok (.getfield 39, 3) := by decide +kernel
theorem dX6_nextToken_30 : decode cX6_nextToken 30 = .ok (.iconst 1, 1) := by decide +kernel
theorem dX6_nextToken_31 : decode cX6_nextToken 31 = .ok (.iadd, 1) := by decide +kernel
theorem dX6_nextToken_32 : decode cX6_nextToken 32 = .ok (.putfield 39, 3) := by decide +kernel
theorem dX6_nextToken_35 : decode cX6_nextToken 35 = .ok (.goto (-35), 3) := by decide +kernel
theorem dX6_nextToken_38 : decode cX6_nextToken 38 = .ok (.aload_n 0, 1) := by decide +kernel
theorem dX6_nextToken_39 : decode cX6_nextToken 39 = .ok (.aload_n 0, 1) := by decide +kernel
theorem dX6_nextToken_40 : decode cX6_nextToken 40 = .ok (.getfield 39, 3) := by decide +kernel
theorem dX6_nextToken_43 : decode cX6_nextToken 43 = .ok (.putfield 114, 3) := by decide +kernel
theorem dX6_nextToken_46 : decode cX6_nextToken 46 = .ok (.aload_n 0, 1) := by decide +kernel
theorem dX6_nextToken_47 : decode cX6_nextToken 47 = .ok (.iconst 0, 1) := by decide +kernel
theorem dX6_nextToken_48 : decode cX6_nextToken 48 = .ok (.putfield 111, 3) := by decide +kernel
theorem dX6_nextToken_51 : decode cX6_nextToken 51 = .ok (.aload_n 0, 1) := by decide +kernel
theorem dX6_nextToken_52 : decode cX6_nextToken 52 = .ok (.getfield 39, 3) := by decide +kernel
theorem dX6_nextToken_55 : decode cX6_nextToken 55 = .ok (.aload_n 0, 1) := by decide +kernel
theorem dX6_nextToken_56 : decode cX6_nextToken 56 = .ok (.getfield 26, 3) := by decide +kernel
theorem dX6_nextToken_59 : decode cX6_nextToken 59 = .ok (.if_icmp .ge 61, 3) := by decide +kernel
theorem dX6_nextToken_62 : decode cX6_nextToken 62 = .ok (.aload_n 0, 1) := by decide +kernel
theorem dX6_nextToken_63 : decode cX6_nextToken 63 = .ok (.getfield 9, 3) := by decide +kernel
theorem dX6_nextToken_66 : decode cX6_nextToken 66 = .ok (.aload_n 0, 1) := by decide +kernel
theorem dX6_nextToken_67 : decode cX6_nextToken 67 = .ok (.getfield 39, 3) := by decide +kernel
theorem dX6_nextToken_70 : decode cX6_nextToken 70 = .ok (.iaload, 1) := by decide +kernel
theorem dX6_nextToken_71 : decode cX6_nextToken 71 = .ok (.invokestatic 117, 3) := by decide +kernel
theorem dX6_nextToken_74 : decode cX6_nextToken 74 = .ok (.ifCond .eq 46, 3) := by decide +kernel
theorem dX6_nextToken_77 : decode cX6_nextToken 77 = .ok (.aload_n 0, 1) := by decide +kernel
theorem dX6_nextToken_78 : decode cX6_nextToken 78 = .ok (.sipush 240, 3) := by decide +kernel
theorem dX6_nextToken_81 : decode cX6_nextToken 81 = .ok (.aload_n 0, 1) := by decide +kernel
theorem dX6_nextToken_82 : decode cX6_nextToken 82 = .ok (.getfield 111, 3) := by decide +kernel
theorem dX6_nextToken_85 : decode cX6_nextToken 85 = .ok (.bipush 10, 2) := by decide +kernel
theorem dX6_nextToken_87 : decode cX6_nextToken 87 = .ok (.imul, 1) := by decide +kernel
theorem dX6_nextToken_88 : decode cX6_nextToken 88 = .ok (.aload_n 0, 1) := by decide +kernel
theorem dX6_nextToken_89 : decode cX6_nextToken 89 = .ok (.getfield 9, 3) := by decide +kernel
theorem dX6_nextToken_92 : decode cX6_nextToken 92 = .ok (.aload_n 0, 1) := by decide +kernel
theorem dX6_nextToken_93 : decode cX6_nextToken 93 = .ok (.getfield 39, 3) := by decide +kernel
theorem dX6_nextToken_96 : decode cX6_nextToken 96 = .ok (.iaload, 1) := by decide +kernel
theorem dX6_nextToken_97 : decode cX6_nextToken 97 = .ok (.iadd, 1) := by decide +kernel
theorem dX6_nextToken_98 : decode cX6_nextToken 98 = .ok (.bipush 48, 2) := by decide +kernel
theorem dX6_nextToken_100 : decode cX6_nextToken 100 = .ok (.isub, 1) := by decide +kernel
theorem dX6_nextToken_101 : decode cX6_nextToken 101 = .ok (.invokestatic 121, 3) := by decide +kernel
theorem dX6_nextToken_104 : decode cX6_nextToken 104 = .ok (.putfield 111, 3) := by decide +kernel
theorem dX6_nextToken_107 : decode cX6_nextToken 107 = .ok (.aload_n 0, 1) := by decide +kernel
theorem dX6_nextToken_108 : decode cX6_nextToken 108 = .ok (.dup, 1) := by decide +kernel
theorem dX6_nextToken_109 : decode cX6_nextToken 109 = .ok (.getfield 39, 3) := by decide +kernel
theorem dX6_nextToken_112 : decode cX6_nextToken 112 = .ok (.iconst 1, 1) := by decide +kernel
theorem dX6_nextToken_113 : decode cX6_nextToken 113 = .ok (.iadd, 1) := by decide +kernel
theorem dX6_nextToken_114 : decode cX6_nextToken 114 = .ok (.putfield 39, 3) := by decide +kernel
theorem dX6_nextToken_117 : decode cX6_nextToken 117 = .ok (.goto (-66), 3) := by decide +kernel
theorem dX6_nextToken_120 : decode cX6_nextToken 120 = .ok (.aload_n 0, 1) := by decide +kernel
theorem dX6_nextToken_121 : decode cX6_nextToken 121 = .ok (.getfield 114, 3) := by decide +kernel
theorem dX6_nextToken_124 : decode cX6_nextToken 124 = .ok (.aload_n 0, 1) := by decide +kernel
theorem dX6_nextToken_125 : decode cX6_nextToken 125 = .ok (.getfield 26, 3) := by decide +kernel
theorem dX6_nextToken_128 : decode cX6_nextToken 128 = .ok (.if_icmp .lt 11, 3) := by decide +kernel
theorem dX6_nextToken_131 : decode cX6_nextToken 131 = .ok (.aload_n 0, 1) := by decide +kernel
theorem dX6_nextToken_132 : decode cX6_nextToken 132 = .ok (.iconst (-1), 1) := by decide +kernel
theorem dX6_nextToken_133 : decode cX6_nextToken 133 = .ok (.putfield 45, 3) := by decide +kernel
theorem dX6_nextToken_136 : decode cX6_nextToken 136 = .ok (.goto 118, 3) := by decide +kernel
theorem dX6_nextToken_139 : decode cX6_nextToken 139 = .ok (.aload_n 0, 1) := by decide +kernel
theorem dX6_nextToken_140 : decode cX6_nextToken 140 = .ok (.getfield 39, 3) := by decide +kernel
theorem dX6_nextToken_143 : decode cX6_nextToken 143 = .ok (.aload_n 0, 1) := by decide +kernel
theorem dX6_nextToken_144 : decode cX6_nextToken 144 = .ok (.getfield 114, 3) := by decide +kernel
theorem dX6_nextToken_147 : decode cX6_nextToken 147 = .ok (.if_icmp .le 64, 3) := by decide +kernel
theorem dX6_nextToken_150 : decode cX6_nextToken 150 = .ok (.aload_n 0, 1) := by decide +kernel
theorem dX6_nextToken_151 : decode cX6_nextToken 151 = .ok (.getfield 9, 3) := by decide +kernel
theorem dX6_nextToken_154 : decode cX6_nextToken 154 = .ok (.aload_n 0, 1) := by decide +kernel
theorem dX6_nextToken_155 : decode cX6_nextToken 155 = .ok (.getfield 114, 3) := by decide +kernel
theorem dX6_nextToken_158 : decode cX6_nextToken 158 = .ok (.iaload, 1) := by decide +kernel
theorem dX6_nextToken_159 : decode cX6_nextToken 159 = .ok (.bipush 48, 2) := by decide +kernel
theorem dX6_nextToken_161 : decode cX6_nextToken 161 = .ok (.if_icmp .ne 20, 3) := by decide +kernel
theorem dX6_nextToken_164 : decode cX6_nextToken 164 = .ok (.aload_n 0, 1) := by decide +kernel
theorem dX6_nextToken_165 : decode cX6_nextToken 165 = .ok (.getfield 39, 3) := by decide +kernel
theorem dX6_nextToken_168 : decode cX6_nextToken 168 = .ok (.aload_n 0, 1) := by decide +kernel
theorem dX6_nextToken_169 : decode cX6_nextToken 169 = .ok (.getfield 114, 3) := by decide +kernel
theorem dX6_nextToken_172 : decode cX6_nextToken 172 = .ok (.isub, 1) := by decide +kernel
theorem dX6_nextToken_173 : decode cX6_nextToken 173 = .ok (.iconst 1, 1) := by decide +kernel
theorem dX6_nextToken_174 : decode cX6_nextToken 174 = .ok (.if_icmp .le 7, 3) := by decide +kernel
theorem dX6_nextToken_177 : decode cX6_nextToken 177 = .ok (.iconst 1, 1) := by decide +kernel
theorem dX6_nextToken_178 : decode cX6_nextToken 178 = .ok (.goto 4, 3) := by decide +kernel
theorem dX6_nextToken_181 : decode cX6_nextToken 181 = .ok (.iconst 0, 1) := by decide +kernel
theorem dX6_nextToken_182 : decode cX6_nextToken 182 = .ok (.istore_n 1, 1) := by decide +kernel
theorem dX6_nextToken_183 : decode cX6_nextToken 183 = .ok (.aload_n 0, 1) := by decide +kernel
theorem dX6_nextToken_184 : decode cX6_nextToken 184 = .ok (.iload_n 1, 1) := by decide +kernel
theorem dX6_nextToken_185 : decode cX6_nextToken 185 = .ok (.ifCond .ne 13, 3) := by decide +kernel
theorem dX6_nextToken_188 : decode cX6_nextToken 188 = .ok (.aload_n 0, 1) := by decide +kernel
theorem dX6_nextToken_189 : decode cX6_nextToken 189 = .ok (.getfield 111, 3) := by decide +kernel
theorem dX6_nextToken_192 : decode cX6_nextToken 192 = .ok (.sipush 239, 3) := by decide +kernel
theorem dX6_nextToken_195 : decode cX6_nextToken 195 = .ok (.if_icmp .le 8, 3) := by decide +kernel
theorem dX6_nextToken_198 : decode cX6_nextToken 198 = .ok (.bipush (-3), 2) := by decide +kernel
theorem dX6_nextToken_200 : decode cX6_nextToken 200 = .ok (.goto 5, 3) := by decide +kernel
theorem dX6_nextToken_203 : decode cX6_nextToken 203 = .ok (.bipush (-2), 2) := by decide +kernel
theorem dX6_nextToken_205 : decode cX6_nextToken 205 = .ok (.putfield 45, 3) := by decide +kernel
theorem dX6_nextToken_208 : decode cX6_nextToken 208 = .ok (.goto 46, 3) := by decide +kernel
theorem dX6_nextToken_211 : decode cX6_nextToken 211 = .ok (.aload_n 0, 1) := by decide +kernel
theorem dX6_nextToken_212 : decode cX6_nextToken 212 = .ok (.aload_n 0, 1) := by decide +kernel
theorem dX6_nextToken_213 : decode cX6_nextToken 213 = .ok (.getfield 9, 3) := by decide +kernel
theorem dX6_nextToken_216 : decode cX6_nextToken 216 = .ok (.aload_n 0, 1) := by decide +kernel
theorem dX6_nextToken_217 : decode cX6_nextToken 217 = .ok (.getfield 114, 3) := by decide +kernel
theorem dX6_nextToken_220 : decode cX6_nextToken 220 = .ok (.iaload, 1) := by decide +kernel
theorem dX6_nextToken_221 : decode cX6_nextToken 221 = .ok (.invokestatic 126, 3) := by decide +kernel
theorem dX6_nextToken_224 : decode cX6_nextToken 224 = .ok (.ifCond .eq 15, 3) := by decide +kernel
theorem dX6_nextToken_227 : decode cX6_nextToken 227 = .ok (.aload_n 0, 1) := by decide +kernel
theorem dX6_nextToken_228 : decode cX6_nextToken 228 = .ok (.getfield 9, 3) := by decide +kernel
theorem dX6_nextToken_231 : decode cX6_nextToken 231 = .ok (.aload_n 0, 1) := by decide +kernel
theorem dX6_nextToken_232 : decode cX6_nextToken 232 = .ok (.getfield 114, 3) := by decide +kernel
theorem dX6_nextToken_235 : decode cX6_nextToken 235 = .ok (.iaload, 1) := by decide +kernel
theorem dX6_nextToken_236 : decode cX6_nextToken 236 = .ok (.goto 5, 3) := by decide +kernel
theorem dX6_nextToken_239 : decode cX6_nextToken 239 = .ok (.bipush (-3), 2) := by decide +kernel
theorem dX6_nextToken_241 : decode cX6_nextToken 241 = .ok (.putfield 45, 3) := by decide +kernel
theorem dX6_nextToken_244 : decode cX6_nextToken 244 = .ok (.aload_n 0, 1) := by decide +kernel
theorem dX6_nextToken_245 : decode cX6_nextToken 245 = .ok (.dup, 1) := by decide +kernel
theorem dX6_nextToken_246 : decode cX6_nextToken 246 = .ok (.getfield 39, 3) := by decide +kernel
theorem dX6_nextToken_249 : decode cX6_nextToken 249 = .ok (.iconst 1, 1) := by decide +kernel
theorem dX6_nextToken_250 : decode cX6_nextToken 250 = .ok (.iadd, 1) := by decide +kernel
theorem dX6_nextToken_251 : decode cX6_nextToken 251 = .ok (.putfield 39, 3) := by decide +kernel
theorem dX6_nextToken_254 : decode cX6_nextToken 254 = .ok (.return_, 1) := by decide +kernel
theorem dX6_isDigit_0 : decode cX6_isDigit 0 = .ok (.iload_n 0, 1) := by decide +kernel
theorem dX6_isDigit_1 : decode cX6_isDigit 1 = .ok (.bipush 48, 2) := by decide +kernel
theorem dX6_isDigit_3 : decode cX6_isDigit 3 = .ok (.if_icmp .lt 13, 3) := by decide +kernel
theorem dX6_isDigit_6 : decode cX6_isDigit 6 = .ok (.iload_n 0, 1) := by decide +kernel
theorem dX6_isDigit_7 : decode cX6_isDigit 7 = .ok (.bipush 57, 2) := by decide +kernel
theorem dX6_isDigit_9 : decode cX6_isDigit 9 = .ok (.if_icmp .gt 7, 3) := by decide +kernel
theorem dX6_isDigit_12 : decode cX6_isDigit 12 = .ok (.iconst 1, 1) := by decide +kernel
theorem dX6_isDigit_13 : decode cX6_isDigit 13 = .ok (.goto 4, 3) := by decide +kernel
