theorem dX0_init_0 : decode cX0_init 0 = .ok (.aload_n 0, 1) := by decide +kernel
theorem dX0_init_1 : decode cX0_init 1 = .ok (.invokespecial 1, 3) := by decide +kernel
theorem dX0_init_4 : decode cX0_init 4 = .ok (.aload_n 0, 1) := by decide +kernel
theorem dX0_init_5 : decode cX0_init 5 = .ok (.iload_n 1, 1) := by decide +kernel
theorem dX0_init_6 : decode cX0_init 6 = .ok (.putfield 7, 3) := by decide +kernel
theorem dX0_init_9 : decode cX0_init 9 = .ok (.aload_n 0, 1) := by decide +kernel
theorem dX0_init_10 : decode cX0_init 10 = .ok (.iload_n 2, 1) := by decide +kernel
theorem dX0_init_11 : decode cX0_init 11 = .ok (.putfield 13, 3) := by decide +kernel
theorem dX0_init_14 : decode cX0_init 14 = .ok (.aload_n 0, 1) := by decide +kernel
theorem dX0_init_15 : decode cX0_init 15 = .ok (.iload_n 3, 1) := by decide +kernel
theorem dX0_init_16 : decode cX0_init 16 = .ok (.putfield 16, 3) := by decide +kernel
theorem dX0_init_19 : decode cX0_init 19 = .ok (.aload_n 0, 1) := by decide +kernel
theorem dX0_init_20 : decode cX0_init 20 = .ok (.iload 4, 2) := by decide +kernel
theorem dX0_init_22 : decode cX0_init 22 = .ok (.putfield 19, 3) := by decide +kernel
theorem dX0_init_25 : decode cX0_init 25 = .ok (.return_, 1) := by decide +kernel
theorem dX0_covers_0 : decode cX0_covers 0 = .ok (.aload_n 0, 1) := by decide +kernel
theorem dX0_covers_1 : decode cX0_covers 1 = .ok (.getfield 7, 3) := by decide +kernel
theorem dX0_covers_4 : decode cX0_covers 4 = .ok (.iload_n 1, 1) := by decide +kernel
theorem dX0_covers_5 : decode cX0_covers 5 = .ok (.if_icmp .gt 15, 3) := by decide +kernel
theorem dX0_covers_8 : decode cX0_covers 8 = .ok (.iload_n 1, 1) := by decide +kernel
theorem dX0_covers_9 : decode cX0_covers 9 = .ok (.aload_n 0, 1) := by decide +kernel
theorem dX0_covers_10 : decode cX0_covers 10 = .ok (.getfield 13, 3) := by decide +kernel
theorem dX0_covers_13 : decode cX0_covers 13 = .ok (.if_icmp .ge 7, 3) := by decide +kernel
theorem dX0_covers_16 : decode cX0_covers 16 = .ok (.iconst 1, 1) := by decide +kernel
theorem dX0_covers_17 : decode cX0_covers 17 = .ok (.goto 4, 3) := by decide +kernel
theorem dX0_covers_20 : decode cX0_covers 20 = .ok (.iconst 0, 1) := by decide +kernel
theorem dX0_covers_21 : decode cX0_covers 21 = .ok (.ireturn, 1) := by decide +kernel
theorem dX1_init_0 : decode cX1_init 0 = .ok (.aload_n 0, 1) := by decide +kernel
theorem dX1_init_1 : decode cX1_init 1 = .ok (.invokespecial 3, 3) := by decide +kernel
theorem dX1_init_4 : decode cX1_init 4 = .ok (.aload_n 0, 1) := by decide +kernel
theorem dX1_init_5 : decode cX1_init 5 = .ok (.new 9, 3) := by decide +kernel
theorem dX1_init_8 : decode cX1_init 8 = .ok (.dup, 1) := by decide +kernel
theorem dX1_init_9 : decode cX1_init 9 = .ok (.invokespecial 11, 3) := by decide +kernel
theorem dX1_init_12 : decode cX1_init 12 = .ok (.putfield 12, 3) := by decide +kernel
theorem dX1_init_15 : decode cX1_init 15 = .ok (.aload_n 0, 1) := by decide +kernel
theorem dX1_init_16 : decode cX1_init 16 = .ok (.iload_n 1, 1) := by decide +kernel
theorem dX1_init_17 : decode cX1_init 17 = .ok (.putfield 18, 3) := by decide +kernel
theorem dX1_init_20 : decode cX1_init 20 = .ok (.aload_n 0, 1) := by decide +kernel
theorem dX1_init_21 : decode cX1_init 21 = .ok (.iload_n 2, 1) := by decide +kernel
theorem dX1_init_22 : decode cX1_init 22 = .ok (.putfield 22, 3) := by decide +kernel
theorem dX1_init_25 : decode cX1_init 25 = .ok (.aload_n 0, 1) := by decide +kernel
theorem dX1_init_26 : decode cX1_init 26 = .ok (.iload_n 3, 1) := by decide +kernel
theorem dX1_init_27 : decode cX1_init 27 = .ok (.putfield 25, 3) := by decide +kernel
theorem dX1_init_30 : decode cX1_init 30 = .ok (.return_, 1) := by decide +kernel
theorem dX1_isJump_0 : decode cX1_isJump 0 = .ok (.aload_n 0, 1) := by decide +kernel
theorem dX1_isJump_1 : decode cX1_isJump 1 = .ok (.getfield 18, 3) := by decide +kernel
theorem dX1_isJump_4 : decode cX1_isJump 4 = .ok (.bipush 19, 2) := by decide +kernel
theorem dX1_isJump_6 : decode cX1_isJump 6 = .ok (.if_icmp .lt 16, 3) := by decide +kernel
theorem dX1_isJump_9 : decode cX1_isJump 9 = .ok (.aload_n 0, 1) := by decide +kernel
theorem dX1_isJump_10 : decode cX1_isJump 10 = .ok (.getfield 18, 3) := by decide +kernel
theorem dX1_isJump_13 : decode cX1_isJump 13 = .ok (.bipush 25, 2) := by decide +kernel
theorem dX1_isJump_15 : decode cX1_isJump 15 = .ok (.if_icmp .gt 7, 3) := by decide +kernel
theorem dX1_isJump_18 : decode cX1_isJump 18 = .ok (.iconst 1, 1) := by decide +kernel
theorem dX1_isJump_19 : decode cX1_isJump 19 = .ok (.goto 4, 3) := by decide +kernel
theorem dX1_isJump_22 : decode cX1_isJump 22 = .ok (.iconst 0, 1) := by decide +kernel
theorem dX1_isJump_23 : decode cX1_isJump 23 = .ok (.ireturn, 1) := by decide +kernel
theorem dX1_goesOnBehind_0 : decode cX1_goesOnBehind 0 = .ok (.aload_n 0, 1) := by decide +kernel
theorem dX1_goesOnBehind_1 : decode cX1_goesOnBehind 1 = .ok (.getfield 18, 3) := by decide +kernel
theorem dX1_goesOnBehind_4 : decode cX1_goesOnBehind 4 = .ok (.bipush 25, 2) := by decide +kernel
theorem dX1_goesOnBehind_6 : decode cX1_goesOnBehind 6 = .ok (.if_icmp .eq 34, 3) := by decide +kernel
theorem dX1_goesOnBehind_9 : decode cX1_goesOnBehind 9 = .ok (.aload_n 0, 1) := by decide +kernel
theorem dX1_goesOnBehind_10 : decode cX1_goesOnBehind 10 = .ok (.getfield 18, 3) := by decide +kernel
theorem dX1_goesOnBehind_13 : decode cX1_goesOnBehind 13 = .ok (.bipush 37, 2) := by decide +kernel
theorem dX1_goesOnBehind_15 : decode cX1_goesOnBehind 15 = .ok (.if_icmp .eq 25, 3) := by decide +kernel
theorem dX1_goesOnBehind_18 : decode cX1_goesOnBehind 18 = .ok (.aload_n 0, 1) := by decide +kernel
theorem dX1_goesOnBehind_19 : decode cX1_goesOnBehind 19 = .ok (.getfield 18, 3) := by decide +kernel
theorem dX1_goesOnBehind_22 : decode cX1_goesOnBehind 22 = .ok (.bipush 38, 2) := by decide +kernel
theorem dX1_goesOnBehind_24 : decode cX1_goesOnBehind 24 = .ok (.if_icmp .eq 16, 3) := by decide +kernel
theorem dX1_goesOnBehind_27 : decode cX1_goesOnBehind 27 = .ok (.aload_n 0, 1) := by decide +kernel
theorem dX1_goesOnBehind_28 : decode cX1_goesOnBehind 28 = .ok (.getfield 18, 3) := by decide +kernel
theorem dX1_goesOnBehind_31 : decode cX1_goesOnBehind 31 = .ok (.bipush 39, 2) := by decide +kernel
theorem dX1_goesOnBehind_33 : decode cX1_goesOnBehind 33 = .ok (.if_icmp .eq 7, 3) := by decide +kernel
theorem dX1_goesOnBehind_36 : decode cX1_goesOnBehind 36 = .ok (.iconst 1, 1) := by decide +kernel
theorem dX1_goesOnBehind_37 : decode cX1_goesOnBehind 37 = .ok (.goto 4, 3) := by decide +kernel
theorem dX1_goesOnBehind_40 : decode cX1_goesOnBehind 40 = .ok (.iconst 0, 1) := by decide +kernel
theorem dX1_goesOnBehind_41 : decode cX1_goesOnBehind 41 = .ok (.ireturn, 1) := by decide +kernel
theorem dX2_init_0 : decode cX2_init 0 = .ok (.aload_n 0, 1) := by decide +kernel
theorem dX2_init_1 : decode cX2_init 1 = .ok (.invokespecial 3, 3) := by decide +kernel
theorem dX2_init_4 : decode cX2_init 4 = .ok (.aload_n 0, 1) := by decide +kernel
theorem dX2_init_5 : decode cX2_init 5 = .ok (.bipush 15, 2) := by decide +kernel
theorem dX2_init_7 : decode cX2_init 7 = .ok (.newarray .int, 2) := by decide +kernel
theorem dX2_init_9 : decode cX2_init 9 = .ok (.putfield 9, 3) := by decide +kernel
theorem dX2_init_12 : decode cX2_init 12 = .ok (.aload_n 0, 1) := by decide +kernel
theorem dX2_init_13 : decode cX2_init 13 = .ok (.bipush 16, 2) := by decide +kernel
theorem dX2_init_15 : decode cX2_init 15 = .ok (.newarray .int, 2) := by decide +kernel
theorem dX2_init_17 : decode cX2_init 17 = .ok (.putfield 15, 3) := by decide +kernel
theorem dX2_init_20 : decode cX2_init 20 = .ok (.aload_n 0, 1) := by decide +kernel
theorem dX2_init_21 : decode cX2_init 21 = .ok (.iload_n 1, 1) := by decide +kernel
theorem dX2_init_22 : decode cX2_init 22 = .ok (.putfield 18, 3) := by decide +kernel
theorem dX2_init_25 : decode cX2_init 25 = .ok (.iconst 1, 1) := by decide +kernel
theorem dX2_init_26 : decode cX2_init 26 = .ok (.iload_n 1, 1) := by decide +kernel
theorem dX2_init_27 : decode cX2_init 27 = .ok (.ishl, 1) := by decide +kernel
theorem dX2_init_28 : decode cX2_init 28 = .ok (.istore_n 3, 1) := by decide +kernel
theorem dX2_init_29 : decode cX2_init 29 = .ok (.aload_n 2, 1) := by decide +kernel
theorem dX2_init_30 : decode cX2_init 30 = .ok (.ifnonnull 17, 3) := by decide +kernel
theorem dX2_init_33 : decode cX2_init 33 = .ok (.aload_n 0, 1) := by decide +kernel
theorem dX2_init_34 : decode cX2_init 34 = .ok (.iload_n 3, 1) := by decide +kernel
theorem dX2_init_35 : decode cX2_init 35 = .ok (.putfield 22, 3) := by decide +kernel
theorem dX2_init_38 : decode cX2_init 38 = .ok (.aload_n 0, 1) := by decide +kernel
theorem dX2_init_39 : decode cX2_init 39 = .ok (.getfield 15, 3) := by decide +kernel
theorem dX2_init_42 : decode cX2_init 42 = .ok (.iconst (-1), 1) := by decide +kernel
theorem dX2_init_43 : decode cX2_init 43 = .ok (.invokestatic 25, 3) := by decide +kernel
theorem dX2_init_46 : decode cX2_init 46 = .ok (.return_, 1) := by decide +kernel
theorem dX2_init_47 : decode cX2_init 47 = .ok (.aload_n 0, 1) := by decide +kernel
theorem dX2_init_48 : decode cX2_init 48 = .ok (.aload_n 2, 1) := by decide +kernel
theorem dX2_init_49 : decode cX2_init 49 = .ok (.getfield 22, 3) := by decide +kernel
theorem dX2_init_52 : decode cX2_init 52 = .ok (.iload_n 3, 1) := by decide +kernel
theorem dX2_init_53 : decode cX2_init 53 = .ok (.ior, 1) := by decide +kernel
theorem dX2_init_54 : decode cX2_init 54 = .ok (.putfield 22, 3) := by decide +kernel
theorem dX2_init_57 : decode cX2_init 57 = .ok (.aload_n 0, 1) := by decide +kernel
theorem dX2_init_58 : decode cX2_init 58 = .ok (.aload_n 2, 1) := by decide +kernel
theorem dX2_init_59 : decode cX2_init 59 = .ok (.getfield 31, 3) := by decide +kernel
theorem dX2_init_62 : decode cX2_init 62 = .ok (.putfield 31, 3) := by decide +kernel
theorem dX2_init_65 : decode cX2_init 65 = .ok (.iconst 0, 1) := by decide +kernel
theorem dX2_init_66 : decode cX2_init 66 = .ok (.istore 4, 2) := by decide +kernel
theorem dX2_init_68 : decode cX2_init 68 = .ok (.iload 4, 2) := by decide +kernel
theorem dX2_init_70 : decode cX2_init 70 = .ok (.bipush 15, 2) := by decide +kernel
theorem dX2_init_72 : decode cX2_init 72 = .ok (.if_icmp .ge 23, 3) := by decide +kernel
theorem dX2_init_75 : decode cX2_init 75 = .ok (.aload_n 0, 1) := by decide +kernel
theorem dX2_init_76 : decode cX2_init 76 = .ok (.getfield 9, 3) := by decide +kernel
theorem dX2_init_79 : decode cX2_init 79 = .ok (.iload 4, 2) := by decide +kernel
theorem dX2_init_81 : decode cX2_init 81 = .ok (.aload_n 2, 1) := by decide +kernel
theorem dX2_init_82 : decode cX2_init 82 = .ok (.getfield 9, 3) := by decide +kernel
theorem dX2_init_85 : decode cX2_init 85 = .ok (.iload 4, 2) := by decide +kernel
theorem dX2_init_87 : decode cX2_init 87 = .ok (.iaload, 1) := by decide +kernel
theorem dX2_init_88 : decode cX2_init 88 = .ok (.iastore, 1) := by decide +kernel
theorem dX2_init_89 : decode cX2_init 89 = .ok (.iinc 4 1, 3) := by decide +kernel
theorem dX2_init_92 : decode cX2_init 92 = .ok (.goto (-24), 3) := by decide +kernel
theorem dX2_init_95 : decode cX2_init 95 = .ok (.iconst 0, 1) := by decide +kernel
theorem dX2_init_96 : decode cX2_init 96 = .ok (.istore 4, 2) := by decide +kernel
theorem dX2_init_98 : decode cX2_init 98 = .ok (.iload 4, 2) := by decide +kernel
theorem dX2_init_100 : decode cX2_init 100 = .ok (.bipush 16, 2) := by decide +kernel
theorem dX2_init_102 : decode cX2_init 102 = .ok (.if_icmp .ge 23, 3) := by decide +kernel
theorem dX2_init_105 : decode cX2_init 105 = .ok (.aload_n 0, 1) := by decide +kernel
theorem dX2_init_106 : decode cX2_init 106 = .ok (.getfield 15, 3) := by decide +kernel
theorem dX2_init_109 : decode cX2_init 109 = .ok (.iload 4, 2) := by decide +kernel
theorem dX2_init_111 : decode cX2_init 111 = .ok (.aload_n 2, 1) := by decide +kernel
theorem dX2_init_112 : decode cX2_init 112 = .ok (.getfield 15, 3) := by decide +kernel
theorem dX2_init_115 : decode cX2_init 115 = .ok (.iload 4, 2) := by decide +kernel
theorem dX2_init_117 : decode cX2_init 117 = .ok (.iaload, 1) := by decide +kernel
theorem dX2_init_118 : decode cX2_init 118 = .ok (.iastore, 1) := by decide +kernel
theorem dX2_init_119 : decode cX2_init 119 = .ok (.iinc 4 1, 3) := by decide +kernel
theorem dX2_init_122 : decode cX2_init 122 = .ok (.goto (-24), 3) := by decide +kernel
theorem dX2_init_125 : decode cX2_init 125 = .ok (.return_, 1) := by decide +kernel
theorem dX2_asType_0 : decode cX2_asType 0 = .ok (.iconst 1, 1) := by decide +kernel
theorem dX2_asType_1 : decode cX2_asType 1 = .ok (.aload_n 0, 1) := by decide +kernel
theorem dX2_asType_2 : decode cX2_asType 2 = .ok (.getfield 18, 3) := by decide +kernel
theorem dX2_asType_5 : decode cX2_asType 5 = .ok (.iadd, 1) := by decide +kernel
theorem dX2_asType_6 : decode cX2_asType 6 = .ok (.ireturn, 1) := by decide +kernel
theorem dX2_isOrIsUnder_0 : decode cX2_isOrIsUnder 0 = .ok (.aload_n 0, 1) := by decide +kernel
theorem dX2_isOrIsUnder_1 : decode cX2_isOrIsUnder 1 = .ok (.getfield 22, 3) := by decide +kernel
theorem dX2_isOrIsUnder_4 : decode cX2_isOrIsUnder 4 = .ok (.iload_n 1, 1) := by decide +kernel
theorem dX2_isOrIsUnder_5 : decode cX2_isOrIsUnder 5 = .ok (.iushr, 1) := by decide +kernel
theorem dX2_isOrIsUnder_6 : decode cX2_isOrIsUnder 6 = .ok (.iconst 1, 1) := by decide +kernel
theorem dX2_isOrIsUnder_7 : decode cX2_isOrIsUnder 7 = .ok (.iand, 1) := by decide +kernel
theorem dX2_isOrIsUnder_8 : decode cX2_isOrIsUnder 8 = .ok (.ifCond .eq 7, 3) := by decide +kernel
theorem dX2_isOrIsUnder_11 : decode cX2_isOrIsUnder 11 = .ok (.iconst 1, 1) := by decide +kernel
theorem dX2_isOrIsUnder_12 : decode cX2_isOrIsUnder 12 = .ok (.goto 4, 3) := by decide +kernel
theorem dX2_isOrIsUnder_15 : decode cX2_isOrIsUnder 15 = .ok (.iconst 0, 1) := by decide +kernel
theorem dX2_isOrIsUnder_16 : decode cX2_isOrIsUnder 16 = .ok (.ireturn, 1) := by decide +kernel
theorem dX2_addField_0 : decode cX2_addField 0 = .ok (.aload_n 0, 1) := by decide +kernel
theorem dX2_addField_1 : decode cX2_addField 1 = .ok (.getfield 31, 3) := by decide +kernel
theorem dX2_addField_4 : decode cX2_addField 4 = .ok (.bipush 15, 2) := by decide +kernel
theorem dX2_addField_6 : decode cX2_addField 6 = .ok (.if_icmp .lt 6, 3) := by decide +kernel
theorem dX2_addField_9 : decode cX2_addField 9 = .ok (.bipush (-2), 2) := by decide +kernel
theorem dX2_addField_11 : decode cX2_addField 11 = .ok (.ireturn, 1) := by decide +kernel
theorem dX2_addField_12 : decode cX2_addField 12 = .ok (.aload_n 0, 1) := by decide +kernel
theorem dX2_addField_13 : decode cX2_addField 13 = .ok (.getfield 9, 3) := by decide +kernel
theorem dX2_addField_16 : decode cX2_addField 16 = .ok (.aload_n 0, 1) := by decide +kernel
theorem dX2_addField_17 : decode cX2_addField 17 = .ok (.getfield 31, 3) := by decide +kernel
theorem dX2_addField_20 : decode cX2_addField 20 = .ok (.iload_n 1, 1) := by decide +kernel
theorem dX2_addField_21 : decode cX2_addField 21 = .ok (.iastore, 1) := by decide +kernel
theorem dX2_addField_22 : decode cX2_addField 22 = .ok (.aload_n 0, 1) := by decide +kernel
theorem dX2_addField_23 : decode cX2_addField 23 = .ok (.dup, 1) := by decide +kernel
theorem dX2_addField_24 : decode cX2_addField 24 = .ok (.getfield 31, 3) := by decide +kernel
theorem dX2_addField_27 : decode cX2_addField 27 = .ok (.iconst 1, 1) := by decide +kernel
theorem dX2_addField_28 : decode cX2_addField 28 = .ok (.iadd, 1) := by decide +kernel
theorem dX2_addField_29 : decode cX2_addField 29 = .ok (.putfield 31, 3) := by decide +kernel
theorem dX2_addField_32 : decode cX2_addField 32 = .ok (.aload_n 0, 1) := by decide +kernel
theorem dX2_addField_33 : decode cX2_addField 33 = .ok (.getfield 31, 3) := by decide +kernel
theorem dX2_addField_36 : decode cX2_addField 36 = .ok (.iconst 1, 1) := by decide +kernel
theorem dX2_addField_37 : decode cX2_addField 37 = .ok (.isub, 1) := by decide +kernel
theorem dX2_addField_38 : decode cX2_addField 38 = .ok (.ireturn, 1) := by decide +kernel
theorem dX2_fieldType_0 : decode cX2_fieldType 0 = .ok (.iload_n 1, 1) := by decide +kernel
theorem dX2_fieldType_1 : decode cX2_fieldType 1 = .ok (.ifCond .lt 26, 3) := by decide +kernel
theorem dX2_fieldType_4 : decode cX2_fieldType 4 = .ok (.iload_n 1, 1) := by decide +kernel
theorem dX2_fieldType_5 : decode cX2_fieldType 5 = .ok (.aload_n 0, 1) := by decide +kernel
theorem dX2_fieldType_6 : decode cX2_fieldType 6 = .ok (.getfield 31, 3) := by decide +kernel
theorem dX2_fieldType_9 : decode cX2_fieldType 9 = .ok (.if_icmp .ge 18, 3) := by decide +kernel
theorem dX2_fieldType_12 : decode cX2_fieldType 12 = .ok (.iload_n 1, 1) := by decide +kernel
theorem dX2_fieldType_13 : decode cX2_fieldType 13 = .ok (.bipush 15, 2) := by decide +kernel
theorem dX2_fieldType_15 : decode cX2_fieldType 15 = .ok (.if_icmp .ge 12, 3) := by decide +kernel
theorem dX2_fieldType_18 : decode cX2_fieldType 18 = .ok (.aload_n 0, 1) := by decide +kernel
theorem dX2_fieldType_19 : decode cX2_fieldType 19 = .ok (.getfield 9, 3) := by decide +kernel
theorem dX2_fieldType_22 : decode cX2_fieldType 22 = .ok (.iload_n 1, 1) := by decide +kernel
theorem dX2_fieldType_23 : decode cX2_fieldType 23 = .ok (.iaload, 1) := by decide +kernel
theorem dX2_fieldType_24 : decode cX2_fieldType 24 = .ok (.goto 4, 3) := by decide +kernel
theorem dX2_fieldType_27 : decode cX2_fieldType 27 = .ok (.iconst (-1), 1) := by decide +kernel
theorem dX2_fieldType_28 : decode cX2_fieldType 28 = .ok (.ireturn, 1) := by decide +kernel
theorem dX2_inSlot_0 : decode cX2_inSlot 0 = .ok (.iload_n 1, 1) := by decide +kernel
theorem dX2_inSlot_1 : decode cX2_inSlot 1 = .ok (.ifCond .lt 18, 3) := by decide +kernel
theorem dX2_inSlot_4 : decode cX2_inSlot 4 = .ok (.iload_n 1, 1) := by decide +kernel
theorem dX2_inSlot_5 : decode cX2_inSlot 5 = .ok (.bipush 16, 2) := by decide +kernel
theorem dX2_inSlot_7 : decode cX2_inSlot 7 = .ok (.if_icmp .ge 12, 3) := by decide +kernel
theorem dX2_inSlot_10 : decode cX2_inSlot 10 = .ok (.aload_n 0, 1) := by decide +kernel
theorem dX2_inSlot_11 : decode cX2_inSlot 11 = .ok (.getfield 15, 3) := by decide +kernel
theorem dX2_inSlot_14 : decode cX2_inSlot 14 = .ok (.iload_n 1, 1) := by decide +kernel
theorem dX2_inSlot_15 : decode cX2_inSlot 15 = .ok (.iaload, 1) := by decide +kernel
theorem dX2_inSlot_16 : decode cX2_inSlot 16 = .ok (.goto 4, 3) := by decide +kernel
theorem dX2_inSlot_19 : decode cX2_inSlot 19 = .ok (.iconst (-1), 1) := by decide +kernel
theorem dX2_inSlot_20 : decode cX2_inSlot 20 = .ok (.ireturn, 1) := by decide +kernel
theorem dX3_init_0 : decode cX3_init 0 = .ok (.aload_n 0, 1) := by decide +kernel
theorem dX3_init_1 : decode cX3_init 1 = .ok (.invokespecial 3, 3) := by decide +kernel
theorem dX3_init_4 : decode cX3_init 4 = .ok (.aload_n 0, 1) := by decide +kernel
theorem dX3_init_5 : decode cX3_init 5 = .ok (.bipush 8, 2) := by decide +kernel
theorem dX3_init_7 : decode cX3_init 7 = .ok (.newarray .int, 2) := by decide +kernel
theorem dX3_init_9 : decode cX3_init 9 = .ok (.putfield 9, 3) := by decide +kernel
theorem dX3_init_12 : decode cX3_init 12 = .ok (.aload_n 0, 1) := by decide +kernel
theorem dX3_init_13 : decode cX3_init 13 = .ok (.sipush 200, 3) := by decide +kernel
theorem dX3_init_16 : decode cX3_init 16 = .ok (.anewarray 15, 3) := by decide +kernel
theorem dX3_init_19 : decode cX3_init 19 = .ok (.putfield 17, 3) := by decide +kernel
theorem dX3_init_22 : decode cX3_init 22 = .ok (.aload_n 0, 1) := by decide +kernel
theorem dX3_init_23 : decode cX3_init 23 = .ok (.bipush 8, 2) := by decide +kernel
theorem dX3_init_25 : decode cX3_init 25 = .ok (.anewarray 21, 3) := by decide +kernel
theorem dX3_init_28 : decode cX3_init 28 = .ok (.putfield 23, 3) := by decide +kernel
theorem dX3_init_31 : decode cX3_init 31 = .ok (.aload_n 0, 1) := by decide +kernel
theorem dX3_init_32 : decode cX3_init 32 = .ok (.aload_n 1, 1) := by decide +kernel
theorem dX3_init_33 : decode cX3_init 33 = .ok (.putfield 27, 3) := by decide +kernel
theorem dX3_init_36 : decode cX3_init 36 = .ok (.aload_n 0, 1) := by decide +kernel
theorem dX3_init_37 : decode cX3_init 37 = .ok (.iload_n 2, 1) := by decide +kernel
theorem dX3_init_38 : decode cX3_init 38 = .ok (.putfield 31, 3) := by decide +kernel
theorem dX3_init_41 : decode cX3_init 41 = .ok (.aload_n 0, 1) := by decide +kernel
theorem dX3_init_42 : decode cX3_init 42 = .ok (.iload_n 3, 1) := by decide +kernel
theorem dX3_init_43 : decode cX3_init 43 = .ok (.putfield 35, 3) := by decide +kernel
theorem dX3_init_46 : decode cX3_init 46 = .ok (.aload_n 0, 1) := by decide +kernel
theorem dX3_init_47 : decode cX3_init 47 = .ok (.iload 4, 2) := by decide +kernel
theorem dX3_init_49 : decode cX3_init 49 = .ok (.putfield 38, 3) := by decide +kernel
theorem dX3_init_52 : decode cX3_init 52 = .ok (.aload_n 1, 1) := by decide +kernel
theorem dX3_init_53 : decode cX3_init 53 = .ok (.ifnull 18, 3) := by decide +kernel
theorem dX3_init_56 : decode cX3_init 56 = .ok (.aload_n 0, 1) := by decide +kernel
theorem dX3_init_57 : decode cX3_init 57 = .ok (.getfield 9, 3) := by decide +kernel
theorem dX3_init_60 : decode cX3_init 60 = .ok (.iconst 0, 1) := by decide +kernel
theorem dX3_init_61 : decode cX3_init 61 = .ok (.aload_n 1, 1) := by decide +kernel
theorem dX3_init_62 : decode cX3_init 62 = .ok (.invokevirtual 41, 3) := by decide +kernel
theorem dX3_init_65 : decode cX3_init 65 = .ok (.iastore, 1) := by decide +kernel
theorem dX3_init_66 : decode cX3_init 66 = .ok (.aload_n 0, 1) := by decide +kernel
theorem dX3_init_67 : decode cX3_init 67 = .ok (.iconst 1, 1) := by decide +kernel
theorem dX3_init_68 : decode cX3_init 68 = .ok (.putfield 47, 3) := by decide +kernel
theorem dX3_init_71 : decode cX3_init 71 = .ok (.return_, 1) := by decide +kernel
theorem dX3_isOpenForParameters_0 : decode cX3_isOpenForParameters 0 = .ok (.aload_n 0, 1) := by decide +kernel
theorem dX3_isOpenForParameters_1 : decode cX3_isOpenForParameters 1 = .ok (.getfield 47, 3) := by decide +kernel
theorem dX3_isOpenForParameters_4 : decode cX3_isOpenForParameters 4 = .ok (.aload_n 0, 1) := by decide +kernel
theorem dX3_isOpenForParameters_5 : decode cX3_isOpenForParameters 5 = .ok (.getfield 35, 3) := by decide +kernel
theorem dX3_isOpenForParameters_8 : decode cX3_isOpenForParameters 8 = .ok (.if_icmp .ge 30, 3) := by decide +kernel
theorem dX3_isOpenForParameters_11 : decode cX3_isOpenForParameters 11 = .ok (.aload_n 0, 1) := by decide +kernel
theorem dX3_isOpenForParameters_12 : decode cX3_isOpenForParameters 12 = .ok (.getfield 47, 3) := by decide +kernel
theorem dX3_isOpenForParameters_15 : decode cX3_isOpenForParameters 15 = .ok (.bipush 8, 2) := by decide +kernel
theorem dX3_isOpenForParameters_17 : decode cX3_isOpenForParameters 17 = .ok (.if_icmp .ge 21, 3) := by decide +kernel
theorem dX3_isOpenForParameters_20 : decode cX3_isOpenForParameters 20 = .ok (.aload_n 0, 1) := by decide +kernel
theorem dX3_isOpenForParameters_21 : decode cX3_isOpenForParameters 21 = .ok (.getfield 50, 3) := by decide +kernel
theorem dX3_isOpenForParameters_24 : decode cX3_isOpenForParameters 24 = .ok (.ifCond .ne 14, 3) := by decide +kernel
theorem dX3_isOpenForParameters_27 : decode cX3_isOpenForParameters 27 = .ok (.aload_n 0, 1) := by decide +kernel
theorem dX3_isOpenForParameters_28 : decode cX3_isOpenForParameters 28 = .ok (.getfield 53, 3) := by decide +kernel
theorem dX3_isOpenForParameters_31 : decode cX3_isOpenForParameters 31 = .ok (.ifCond .ne 7, 3) := by decide +kernel
theorem dX3_isOpenForParameters_34 : decode cX3_isOpenForParameters 34 = .ok (.iconst 1, 1) := by decide +kernel
theorem dX3_isOpenForParameters_35 : decode cX3_isOpenForParameters 35 = .ok (.goto 4, 3) := by decide +kernel
theorem dX3_isOpenForParameters_38 : decode cX3_isOpenForParameters 38 = .ok (.iconst 0, 1) := by decide +kernel
theorem dX3_isOpenForParameters_39 : decode cX3_isOpenForParameters 39 = .ok (.ireturn, 1) := by decide +kernel
theorem dX3_addParameter_0 : decode cX3_addParameter 0 = .ok (.aload_n 0, 1) := by decide +kernel
theorem dX3_addParameter_1 : decode cX3_addParameter 1 = .ok (.getfield 47, 3) := by decide +kernel
theorem dX3_addParameter_4 : decode cX3_addParameter 4 = .ok (.bipush 8, 2) := by decide +kernel
theorem dX3_addParameter_6 : decode cX3_addParameter 6 = .ok (.if_icmp .lt 5, 3) := by decide +kernel
theorem dX3_addParameter_9 : decode cX3_addParameter 9 = .ok (.iconst (-1), 1) := by decide +kernel
theorem dX3_addParameter_10 : decode cX3_addParameter 10 = .ok (.ireturn, 1) := by decide +kernel
theorem dX3_addParameter_11 : decode cX3_addParameter 11 = .ok (.aload_n 0, 1) := by decide +kernel
theorem dX3_addParameter_12 : decode cX3_addParameter 12 = .ok (.getfield 9, 3) := by decide +kernel
theorem dX3_addParameter_15 : decode cX3_addParameter 15 = .ok (.aload_n 0, 1) := by decide +kernel
theorem dX3_addParameter_16 : decode cX3_addParameter 16 = .ok (.getfield 47, 3) := by decide +kernel
theorem dX3_addParameter_19 : decode cX3_addParameter 19 = .ok (.iload_n 1, 1) := by decide +kernel
theorem dX3_addParameter_20 : decode cX3_addParameter 20 = .ok (.iastore, 1) := by decide +kernel
theorem dX3_addParameter_21 : decode cX3_addParameter 21 = .ok (.aload_n 0, 1) := by decide +kernel
theorem dX3_addParameter_22 : decode cX3_addParameter 22 = .ok (.dup, 1) := by decide +kernel
theorem dX3_addParameter_23 : decode cX3_addParameter 23 = .ok (.getfield 47, 3) := by decide +kernel
theorem dX3_addParameter_26 : decode cX3_addParameter 26 = .ok (.iconst 1, 1) := by decide +kernel
theorem dX3_addParameter_27 : decode cX3_addParameter 27 = .ok (.iadd, 1) := by decide +kernel
theorem dX3_addParameter_28 : decode cX3_addParameter 28 = .ok (.putfield 47, 3) := by decide +kernel
theorem dX3_addParameter_31 : decode cX3_addParameter 31 = .ok (.aload_n 0, 1) := by decide +kernel
theorem dX3_addParameter_32 : decode cX3_addParameter 32 = .ok (.iconst 0, 1) := by decide +kernel
theorem dX3_addParameter_33 : decode cX3_addParameter 33 = .ok (.putfield 57, 3) := by decide +kernel
theorem dX3_addParameter_36 : decode cX3_addParameter 36 = .ok (.aload_n 0, 1) := by decide +kernel
theorem dX3_addParameter_37 : decode cX3_addParameter 37 = .ok (.getfield 47, 3) := by decide +kernel
theorem dX3_addParameter_40 : decode cX3_addParameter 40 = .ok (.ireturn, 1) := by decide +kernel
theorem dX3_parameterAt_0 : decode cX3_parameterAt 0 = .ok (.iload_n 1, 1) := by decide +kernel
theorem dX3_parameterAt_1 : decode cX3_parameterAt 1 = .ok (.ifCond .lt 26, 3) := by decide +kernel
theorem dX3_parameterAt_4 : decode cX3_parameterAt 4 = .ok (.iload_n 1, 1) := by decide +kernel
theorem dX3_parameterAt_5 : decode cX3_parameterAt 5 = .ok (.aload_n 0, 1) := by decide +kernel
theorem dX3_parameterAt_6 : decode cX3_parameterAt 6 = .ok (.getfield 47, 3) := by decide +kernel
theorem dX3_parameterAt_9 : decode cX3_parameterAt 9 = .ok (.if_icmp .ge 18, 3) := by decide +kernel
theorem dX3_parameterAt_12 : decode cX3_parameterAt 12 = .ok (.iload_n 1, 1) := by decide +kernel
theorem dX3_parameterAt_13 : decode cX3_parameterAt 13 = .ok (.bipush 8, 2) := by decide +kernel
theorem dX3_parameterAt_15 : decode cX3_parameterAt 15 = .ok (.if_icmp .ge 12, 3) := by decide +kernel
theorem dX3_parameterAt_18 : decode cX3_parameterAt 18 = .ok (.aload_n 0, 1) := by decide +kernel
theorem dX3_parameterAt_19 : decode cX3_parameterAt 19 = .ok (.getfield 9, 3) := by decide +kernel
theorem dX3_parameterAt_22 : decode cX3_parameterAt 22 = .ok (.iload_n 1, 1) := by decide +kernel
theorem dX3_parameterAt_23 : decode cX3_parameterAt 23 = .ok (.iaload, 1) := by decide +kernel
theorem dX3_parameterAt_24 : decode cX3_parameterAt 24 = .ok (.goto 4, 3) := by decide +kernel
theorem dX3_parameterAt_27 : decode cX3_parameterAt 27 = .ok (.iconst (-1), 1) := by decide +kernel
theorem dX3_parameterAt_28 : decode cX3_parameterAt 28 = .ok (.ireturn, 1) := by decide +kernel
theorem dX3_isCalledLike_0 : decode cX3_isCalledLike 0 = .ok (.aload_n 0, 1) := by decide +kernel
theorem dX3_isCalledLike_1 : decode cX3_isCalledLike 1 = .ok (.getfield 31, 3) := by decide +kernel
theorem dX3_isCalledLike_4 : decode cX3_isCalledLike 4 = .ok (.aload_n 1, 1) := by decide +kernel
theorem dX3_isCalledLike_5 : decode cX3_isCalledLike 5 = .ok (.getfield 31, 3) := by decide +kernel
theorem dX3_isCalledLike_8 : decode cX3_isCalledLike 8 = .ok (.if_icmp .ne 14, 3) := by decide +kernel
theorem dX3_isCalledLike_11 : decode cX3_isCalledLike 11 = .ok (.aload_n 0, 1) := by decide +kernel
theorem dX3_isCalledLike_12 : decode cX3_isCalledLike 12 = .ok (.getfield 47, 3) := by decide +kernel
theorem dX3_isCalledLike_15 : decode cX3_isCalledLike 15 = .ok (.aload_n 1, 1) := by decide +kernel
theorem dX3_isCalledLike_16 : decode cX3_isCalledLike 16 = .ok (.getfield 47, 3) := by decide +kernel
theorem dX3_isCalledLike_19 : decode cX3_isCalledLike 19 = .ok (.if_icmp .eq 5, 3) := by decide +kernel
theorem dX3_isCalledLike_22 : decode cX3_isCalledLike 22 = .ok (.iconst 0, 1) := by decide +kernel
theorem dX3_isCalledLike_23 : decode cX3_isCalledLike 23 = .ok (.ireturn, 1) := by decide +kernel
theorem dX3_isCalledLike_24 : decode cX3_isCalledLike 24 = .ok (.iconst 1, 1) := by decide +kernel
theorem dX3_isCalledLike_25 : decode cX3_isCalledLike 25 = .ok (.istore_n 2, 1) := by decide +kernel
theorem dX3_isCalledLike_26 : decode cX3_isCalledLike 26 = .ok (.iload_n 2, 1) := by decide +kernel
theorem dX3_isCalledLike_27 : decode cX3_isCalledLike 27 = .ok (.aload_n 0, 1) := by decide +kernel
theorem dX3_isCalledLike_28 : decode cX3_isCalledLike 28 = .ok (.getfield 47, 3) := by decide +kernel
theorem dX3_isCalledLike_31 : decode cX3_isCalledLike 31 = .ok (.if_icmp .ge 24, 3) := by decide +kernel
theorem dX3_isCalledLike_34 : decode cX3_isCalledLike 34 = .ok (.aload_n 0, 1) := by decide +kernel
theorem dX3_isCalledLike_35 : decode cX3_isCalledLike 35 = .ok (.iload_n 2, 1) := by decide +kernel
theorem dX3_isCalledLike_36 : decode cX3_isCalledLike 36 = .ok (.invokevirtual 60, 3) := by decide +kernel
theorem dX3_isCalledLike_39 : decode cX3_isCalledLike 39 = .ok (.aload_n 1, 1) := by decide +kernel
theorem dX3_isCalledLike_40 : decode cX3_isCalledLike 40 = .ok (.iload_n 2, 1) := by decide +kernel
theorem dX3_isCalledLike_41 : decode cX3_isCalledLike 41 = .ok (.invokevirtual 60, 3) := by decide +kernel
theorem dX3_isCalledLike_44 : decode cX3_isCalledLike 44 = .ok (.if_icmp .eq 5, 3) := by decide +kernel
theorem dX3_isCalledLike_47 : decode cX3_isCalledLike 47 = .ok (.iconst 0, 1) := by decide +kernel
theorem dX3_isCalledLike_48 : decode cX3_isCalledLike 48 = .ok (.ireturn, 1) := by decide +kernel
theorem dX3_isCalledLike_49 : decode cX3_isCalledLike 49 = .ok (.iinc 2 1, 3) := by decide +kernel
theorem dX3_isCalledLike_52 : decode cX3_isCalledLike 52 = .ok (.goto (-26), 3) := by decide +kernel
theorem dX3_isCalledLike_55 : decode cX3_isCalledLike 55 = .ok (.iconst 1, 1) := by decide +kernel
theorem dX3_isCalledLike_56 : decode cX3_isCalledLike 56 = .ok (.ireturn, 1) := by decide +kernel
theorem dX3_addInstruction_0 : decode cX3_addInstruction 0 = .ok (.aload_n 0, 1) := by decide +kernel
theorem dX3_addInstruction_1 : decode cX3_addInstruction 1 = .ok (.getfield 50, 3) := by decide +kernel
theorem dX3_addInstruction_4 : decode cX3_addInstruction 4 = .ok (.sipush 200, 3) := by decide +kernel
theorem dX3_addInstruction_7 : decode cX3_addInstruction 7 = .ok (.if_icmp .lt 6, 3) := by decide +kernel
theorem dX3_addInstruction_10 : decode cX3_addInstruction 10 = .ok (.bipush (-2), 2) := by decide +kernel
theorem dX3_addInstruction_12 : decode cX3_addInstruction 12 = .ok (.ireturn, 1) := by decide +kernel
theorem dX3_addInstruction_13 : decode cX3_addInstruction 13 = .ok (.aload_n 0, 1) := by decide +kernel
theorem dX3_addInstruction_14 : decode cX3_addInstruction 14 = .ok (.getfield 17, 3) := by decide +kernel
theorem dX3_addInstruction_17 : decode cX3_addInstruction 17 = .ok (.aload_n 0, 1) := by decide +kernel
theorem dX3_addInstruction_18 : decode cX3_addInstruction 18 = .ok (.getfield 50, 3) := by decide +kernel
theorem dX3_addInstruction_21 : decode cX3_addInstruction 21 = .ok (.new 15, 3) := by decide +kernel
theorem dX3_addInstruction_24 : decode cX3_addInstruction 24 = .ok (.dup, 1) := by decide +kernel
theorem dX3_addInstruction_25 : decode cX3_addInstruction 25 = .ok (.iload_n 1, 1) := by decide +kernel
theorem dX3_addInstruction_26 : decode cX3_addInstruction 26 = .ok (.iload_n 2, 1) := by decide +kernel
theorem dX3_addInstruction_27 : decode cX3_addInstruction 27 = .ok (.iload_n 3, 1) := by decide +kernel
theorem dX3_addInstruction_28 : decode cX3_addInstruction 28 = .ok (.invokespecial 64, 3) := by decide +kernel
theorem dX3_addInstruction_31 : decode cX3_addInstruction 31 = .ok (.aastore, 1) := by decide +kernel
theorem dX3_addInstruction_32 : decode cX3_addInstruction 32 = .ok (.aload_n 0, 1) := by decide +kernel
theorem dX3_addInstruction_33 : decode cX3_addInstruction 33 = .ok (.dup, 1) := by decide +kernel
theorem dX3_addInstruction_34 : decode cX3_addInstruction 34 = .ok (.getfield 50, 3) := by decide +kernel
theorem dX3_addInstruction_37 : decode cX3_addInstruction 37 = .ok (.iconst 1, 1) := by decide +kernel
theorem dX3_addInstruction_38 : decode cX3_addInstruction 38 = .ok (.iadd, 1) := by decide +kernel
theorem dX3_addInstruction_39 : decode cX3_addInstruction 39 = .ok (.putfield 50, 3) := by decide +kernel
theorem dX3_addInstruction_42 : decode cX3_addInstruction 42 = .ok (.aload_n 0, 1) := by decide +kernel
theorem dX3_addInstruction_43 : decode cX3_addInstruction 43 = .ok (.iconst 0, 1) := by decide +kernel
theorem dX3_addInstruction_44 : decode cX3_addInstruction 44 = .ok (.putfield 57, 3) := by decide +kernel
theorem dX3_addInstruction_47 : decode cX3_addInstruction 47 = .ok (.aload_n 0, 1) := by decide +kernel
theorem dX3_addInstruction_48 : decode cX3_addInstruction 48 = .ok (.getfield 50, 3) := by decide +kernel
theorem dX3_addInstruction_51 : decode cX3_addInstruction 51 = .ok (.iconst 1, 1) := by decide +kernel
theorem dX3_addInstruction_52 : decode cX3_addInstruction 52 = .ok (.isub, 1) := by decide +kernel
theorem dX3_addInstruction_53 : decode cX3_addInstruction 53 = .ok (.ireturn, 1) := by decide +kernel
theorem dX3_instructionAt_0 : decode cX3_instructionAt 0 = .ok (.iload_n 1, 1) := by decide +kernel
theorem dX3_instructionAt_1 : decode cX3_instructionAt 1 = .ok (.ifCond .lt 27, 3) := by decide +kernel
theorem dX3_instructionAt_4 : decode cX3_instructionAt 4 = .ok (.iload_n 1, 1) := by decide +kernel
theorem dX3_instructionAt_5 : decode cX3_instructionAt 5 = .ok (.aload_n 0, 1) := by decide +kernel
theorem dX3_instructionAt_6 : decode cX3_instructionAt 6 = .ok (.getfield 50, 3) := by decide +kernel
theorem dX3_instructionAt_9 : decode cX3_instructionAt 9 = .ok (.if_icmp .ge 19, 3) := by decide +kernel
theorem dX3_instructionAt_12 : decode cX3_instructionAt 12 = .ok (.iload_n 1, 1) := by decide +kernel
theorem dX3_instructionAt_13 : decode cX3_instructionAt 13 = .ok (.sipush 200, 3) := by decide +kernel
theorem dX3_instructionAt_16 : decode cX3_instructionAt 16 = .ok (.if_icmp .ge 12, 3) := by decide +kernel
theorem dX3_instructionAt_19 : decode cX3_instructionAt 19 = .ok (.aload_n 0, 1) := by decide +kernel
theorem dX3_instructionAt_20 : decode cX3_instructionAt 20 = .ok (.getfield 17, 3) := by decide +kernel
theorem dX3_instructionAt_23 : decode cX3_instructionAt 23 = .ok (.iload_n 1, 1) := by decide +kernel
theorem dX3_instructionAt_24 : decode cX3_instructionAt 24 = .ok (.aaload, 1) := by decide +kernel
theorem dX3_instructionAt_25 : decode cX3_instructionAt 25 = .ok (.goto 4, 3) := by decide +kernel
theorem dX3_instructionAt_28 : decode cX3_instructionAt 28 = .ok (.aconst_null, 1) := by decide +kernel
theorem dX3_instructionAt_29 : decode cX3_instructionAt 29 = .ok (.areturn, 1) := by decide +kernel
theorem dX3_addHandler_0 : decode cX3_addHandler 0 = .ok (.aload_n 0, 1) := by decide +kernel
theorem dX3_addHandler_1 : decode cX3_addHandler 1 = .ok (.getfield 67, 3) := by decide +kernel
theorem dX3_addHandler_4 : decode cX3_addHandler 4 = .ok (.bipush 8, 2) := by decide +kernel
theorem dX3_addHandler_6 : decode cX3_addHandler 6 = .ok (.if_icmp .lt 6, 3) := by decide +kernel
theorem dX3_addHandler_9 : decode cX3_addHandler 9 = .ok (.bipush (-2), 2) := by decide +kernel
theorem dX3_addHandler_11 : decode cX3_addHandler 11 = .ok (.ireturn, 1) := by decide +kernel
theorem dX3_addHandler_12 : decode cX3_addHandler 12 = .ok (.aload_n 0, 1) := by decide +kernel
theorem dX3_addHandler_13 : decode cX3_addHandler 13 = .ok (.getfield 23, 3) := by decide +kernel
theorem dX3_addHandler_16 : decode cX3_addHandler 16 = .ok (.aload_n 0, 1) := by decide +kernel
theorem dX3_addHandler_17 : decode cX3_addHandler 17 = .ok (.getfield 67, 3) := by decide +kernel
theorem dX3_addHandler_20 : decode cX3_addHandler 20 = .ok (.new 21, 3) := by decide +kernel
theorem dX3_addHandler_23 : decode cX3_addHandler 23 = .ok (.dup, 1) := by decide +kernel
theorem dX3_addHandler_24 : decode cX3_addHandler 24 = .ok (.iload_n 1, 1) := by decide +kernel
theorem dX3_addHandler_25 : decode cX3_addHandler 25 = .ok (.iload_n 2, 1) := by decide +kernel
theorem dX3_addHandler_26 : decode cX3_addHandler 26 = .ok (.iload_n 3, 1) := by decide +kernel
theorem dX3_addHandler_27 : decode cX3_addHandler 27 = .ok (.iload 4, 2) := by decide +kernel
theorem dX3_addHandler_29 : decode cX3_addHandler 29 = .ok (.invokespecial 70, 3) := by decide +kernel
theorem dX3_addHandler_32 : decode cX3_addHandler 32 = .ok (.aastore, 1) := by decide +kernel
theorem dX3_addHandler_33 : decode cX3_addHandler 33 = .ok (.aload_n 0, 1) := by decide +kernel
theorem dX3_addHandler_34 : decode cX3_addHandler 34 = .ok (.dup, 1) := by decide +kernel
theorem dX3_addHandler_35 : decode cX3_addHandler 35 = .ok (.getfield 67, 3) := by decide +kernel
theorem dX3_addHandler_38 : decode cX3_addHandler 38 = .ok (.iconst 1, 1) := by decide +kernel
theorem dX3_addHandler_39 : decode cX3_addHandler 39 = .ok (.iadd, 1) := by decide +kernel
theorem dX3_addHandler_40 : decode cX3_addHandler 40 = .ok (.putfield 67, 3) := by decide +kernel
theorem dX3_addHandler_43 : decode cX3_addHandler 43 = .ok (.aload_n 0, 1) := by decide +kernel
theorem dX3_addHandler_44 : decode cX3_addHandler 44 = .ok (.iconst 0, 1) := by decide +kernel
theorem dX3_addHandler_45 : decode cX3_addHandler 45 = .ok (.putfield 57, 3) := by decide +kernel
theorem dX3_addHandler_48 : decode cX3_addHandler 48 = .ok (.aload_n 0, 1) := by decide +kernel
theorem dX3_addHandler_49 : decode cX3_addHandler 49 = .ok (.getfield 67, 3) := by decide +kernel
theorem dX3_addHandler_52 : decode cX3_addHandler 52 = .ok (.iconst 1, 1) := by decide +kernel
theorem dX3_addHandler_53 : decode cX3_addHandler 53 = .ok (.isub, 1) := by decide +kernel
theorem dX3_addHandler_54 : decode cX3_addHandler 54 = .ok (.ireturn, 1) := by decide +kernel
theorem dX3_handlerAt_0 : decode cX3_handlerAt 0 = .ok (.iload_n 1, 1) := by decide +kernel
theorem dX3_handlerAt_1 : decode cX3_handlerAt 1 = .ok (.ifCond .lt 26, 3) := by decide +kernel
theorem dX3_handlerAt_4 : decode cX3_handlerAt 4 = .ok (.iload_n 1, 1) := by decide +kernel
theorem dX3_handlerAt_5 : decode cX3_handlerAt 5 = .ok (.aload_n 0, 1) := by decide +kernel
theorem dX3_handlerAt_6 : decode cX3_handlerAt 6 = .ok (.getfield 67, 3) := by decide +kernel
theorem dX3_handlerAt_9 : decode cX3_handlerAt 9 = .ok (.if_icmp .ge 18, 3) := by decide +kernel
theorem dX3_handlerAt_12 : decode cX3_handlerAt 12 = .ok (.iload_n 1, 1) := by decide +kernel
theorem dX3_handlerAt_13 : decode cX3_handlerAt 13 = .ok (.bipush 8, 2) := by decide +kernel
theorem dX3_handlerAt_15 : decode cX3_handlerAt 15 = .ok (.if_icmp .ge 12, 3) := by decide +kernel
theorem dX3_handlerAt_18 : decode cX3_handlerAt 18 = .ok (.aload_n 0, 1) := by decide +kernel
theorem dX3_handlerAt_19 : decode cX3_handlerAt 19 = .ok (.getfield 23, 3) := by decide +kernel
theorem dX3_handlerAt_22 : decode cX3_handlerAt 22 = .ok (.iload_n 1, 1) := by decide +kernel
theorem dX3_handlerAt_23 : decode cX3_handlerAt 23 = .ok (.aaload, 1) := by decide +kernel
theorem dX3_handlerAt_24 : decode cX3_handlerAt 24 = .ok (.goto 4, 3) := by decide +kernel
theorem dX3_handlerAt_27 : decode cX3_handlerAt 27 = .ok (.aconst_null, 1) := by decide +kernel
theorem dX3_handlerAt_28 : decode cX3_handlerAt 28 = .ok (.areturn, 1) := by decide +kernel
theorem dX4_init_0 : decode cX4_init 0 = .ok (.aload_n 0, 1) := by decide +kernel
theorem dX4_init_1 : decode cX4_init 1 = .ok (.invokespecial 3, 3) := by decide +kernel
theorem dX4_init_4 : decode cX4_init 4 = .ok (.aload_n 0, 1) := by decide +kernel
theorem dX4_init_5 : decode cX4_init 5 = .ok (.bipush 12, 2) := by decide +kernel
theorem dX4_init_7 : decode cX4_init 7 = .ok (.newarray .int, 2) := by decide +kernel
theorem dX4_init_9 : decode cX4_init 9 = .ok (.putfield 9, 3) := by decide +kernel
theorem dX4_init_12 : decode cX4_init 12 = .ok (.return_, 1) := by decide +kernel
theorem dX4_begin_0 : decode cX4_begin 0 = .ok (.aload_n 0, 1) := by decide +kernel
theorem dX4_begin_1 : decode cX4_begin 1 = .ok (.aload_n 1, 1) := by decide +kernel
theorem dX4_begin_2 : decode cX4_begin 2 = .ok (.getfield 15, 3) := by decide +kernel
theorem dX4_begin_5 : decode cX4_begin 5 = .ok (.putfield 21, 3) := by decide +kernel
theorem dX4_begin_8 : decode cX4_begin 8 = .ok (.aload_n 0, 1) := by decide +kernel
theorem dX4_begin_9 : decode cX4_begin 9 = .ok (.aload_n 1, 1) := by decide +kernel
theorem dX4_begin_10 : decode cX4_begin 10 = .ok (.getfield 22, 3) := by decide +kernel
theorem dX4_begin_13 : decode cX4_begin 13 = .ok (.putfield 25, 3) := by decide +kernel
theorem dX4_begin_16 : decode cX4_begin 16 = .ok (.aload_n 0, 1) := by decide +kernel
theorem dX4_begin_17 : decode cX4_begin 17 = .ok (.iconst 0, 1) := by decide +kernel
theorem dX4_begin_18 : decode cX4_begin 18 = .ok (.putfield 28, 3) := by decide +kernel
theorem dX4_begin_21 : decode cX4_begin 21 = .ok (.iconst 0, 1) := by decide +kernel
theorem dX4_begin_22 : decode cX4_begin 22 = .ok (.istore_n 2, 1) := by decide +kernel
theorem dX4_begin_23 : decode cX4_begin 23 = .ok (.iload_n 2, 1) := by decide +kernel
theorem dX4_begin_24 : decode cX4_begin 24 = .ok (.aload_n 0, 1) := by decide +kernel
theorem dX4_begin_25 : decode cX4_begin 25 = .ok (.getfield 21, 3) := by decide +kernel
theorem dX4_begin_28 : decode cX4_begin 28 = .ok (.if_icmp .ge 39, 3) := by decide +kernel
theorem dX4_begin_31 : decode cX4_begin 31 = .ok (.iload_n 2, 1) := by decide +kernel
theorem dX4_begin_32 : decode cX4_begin 32 = .ok (.bipush 12, 2) := by decide +kernel
theorem dX4_begin_34 : decode cX4_begin 34 = .ok (.if_icmp .ge 33, 3) := by decide +kernel
theorem dX4_begin_37 : decode cX4_begin 37 = .ok (.aload_n 0, 1) := by decide +kernel
theorem dX4_begin_38 : decode cX4_begin 38 = .ok (.getfield 9, 3) := by decide +kernel
theorem dX4_begin_41 : decode cX4_begin 41 = .ok (.iload_n 2, 1) := by decide +kernel
theorem dX4_begin_42 : decode cX4_begin 42 = .ok (.iload_n 2, 1) := by decide +kernel
theorem dX4_begin_43 : decode cX4_begin 43 = .ok (.aload_n 1, 1) := by decide +kernel
theorem dX4_begin_44 : decode cX4_begin 44 = .ok (.getfield 31, 3) := by decide +kernel
theorem dX4_begin_47 : decode cX4_begin 47 = .ok (.if_icmp .ge 11, 3) := by decide +kernel
theorem dX4_begin_50 : decode cX4_begin 50 = .ok (.aload_n 1, 1) := by decide +kernel
theorem dX4_begin_51 : decode cX4_begin 51 = .ok (.iload_n 2, 1) := by decide +kernel
theorem dX4_begin_52 : decode cX4_begin 52 = .ok (.invokevirtual 34, 3) := by decide +kernel
theorem dX4_begin_55 : decode cX4_begin 55 = .ok (.goto 5, 3) := by decide +kernel
theorem dX4_begin_58 : decode cX4_begin 58 = .ok (.bipush 99, 2) := by decide +kernel
theorem dX4_begin_60 : decode cX4_begin 60 = .ok (.iastore, 1) := by decide +kernel
theorem dX4_begin_61 : decode cX4_begin 61 = .ok (.iinc 2 1, 3) := by decide +kernel
theorem dX4_begin_64 : decode cX4_begin 64 = .ok (.goto (-41), 3) := by decide +kernel
theorem dX4_begin_67 : decode cX4_begin 67 = .ok (.return_, 1) := by decide +kernel
theorem dX4_copy_0 : decode cX4_copy 0 = .ok (.aload_n 0, 1) := by decide +kernel
theorem dX4_copy_1 : decode cX4_copy 1 = .ok (.aload_n 1, 1) := by decide +kernel
theorem dX4_copy_2 : decode cX4_copy 2 = .ok (.getfield 21, 3) := by decide +kernel
theorem dX4_copy_5 : decode cX4_copy 5 = .ok (.putfield 21, 3) := by decide +kernel
theorem dX4_copy_8 : decode cX4_copy 8 = .ok (.aload_n 0, 1) := by decide +kernel
theorem dX4_copy_9 : decode cX4_copy 9 = .ok (.aload_n 1, 1) := by decide +kernel
theorem dX4_copy_10 : decode cX4_copy 10 = .ok (.getfield 25, 3) := by decide +kernel
theorem dX4_copy_13 : decode cX4_copy 13 = .ok (.putfield 25, 3) := by decide +kernel
theorem dX4_copy_16 : decode cX4_copy 16 = .ok (.aload_n 0, 1) := by decide +kernel
theorem dX4_copy_17 : decode cX4_copy 17 = .ok (.aload_n 1, 1) := by decide +kernel
theorem dX4_copy_18 : decode cX4_copy 18 = .ok (.getfield 28, 3) := by decide +kernel
theorem dX4_copy_21 : decode cX4_copy 21 = .ok (.putfield 28, 3) := by decide +kernel
theorem dX4_copy_24 : decode cX4_copy 24 = .ok (.iconst 0, 1) := by decide +kernel
theorem dX4_copy_25 : decode cX4_copy 25 = .ok (.istore_n 2, 1) := by decide +kernel
theorem dX4_copy_26 : decode cX4_copy 26 = .ok (.iload_n 2, 1) := by decide +kernel
theorem dX4_copy_27 : decode cX4_copy 27 = .ok (.bipush 12, 2) := by decide +kernel
theorem dX4_copy_29 : decode cX4_copy 29 = .ok (.if_icmp .ge 21, 3) := by decide +kernel
theorem dX4_copy_32 : decode cX4_copy 32 = .ok (.aload_n 0, 1) := by decide +kernel
theorem dX4_copy_33 : decode cX4_copy 33 = .ok (.getfield 9, 3) := by decide +kernel
theorem dX4_copy_36 : decode cX4_copy 36 = .ok (.iload_n 2, 1) := by decide +kernel
theorem dX4_copy_37 : decode cX4_copy 37 = .ok (.aload_n 1, 1) := by decide +kernel
theorem dX4_copy_38 : decode cX4_copy 38 = .ok (.getfield 9, 3) := by decide +kernel
theorem dX4_copy_41 : decode cX4_copy 41 = .ok (.iload_n 2, 1) := by decide +kernel
theorem dX4_copy_42 : decode cX4_copy 42 = .ok (.iaload, 1) := by decide +kernel
theorem dX4_copy_43 : decode cX4_copy 43 = .ok (.iastore, 1) := by decide +kernel
theorem dX4_copy_44 : decode cX4_copy 44 = .ok (.iinc 2 1, 3) := by decide +kernel
theorem dX4_copy_47 : decode cX4_copy 47 = .ok (.goto (-21), 3) := by decide +kernel
theorem dX4_copy_50 : decode cX4_copy 50 = .ok (.return_, 1) := by decide +kernel
theorem dX4_localAt_0 : decode cX4_localAt 0 = .ok (.iload_n 1, 1) := by decide +kernel
theorem dX4_localAt_1 : decode cX4_localAt 1 = .ok (.ifCond .lt 26, 3) := by decide +kernel
theorem dX4_localAt_4 : decode cX4_localAt 4 = .ok (.iload_n 1, 1) := by decide +kernel
theorem dX4_localAt_5 : decode cX4_localAt 5 = .ok (.aload_n 0, 1) := by decide +kernel
theorem dX4_localAt_6 : decode cX4_localAt 6 = .ok (.getfield 21, 3) := by decide +kernel
theorem dX4_localAt_9 : decode cX4_localAt 9 = .ok (.if_icmp .ge 18, 3) := by decide +kernel
theorem dX4_localAt_12 : decode cX4_localAt 12 = .ok (.iload_n 1, 1) := by decide +kernel
theorem dX4_localAt_13 : decode cX4_localAt 13 = .ok (.bipush 12, 2) := by decide +kernel
theorem dX4_localAt_15 : decode cX4_localAt 15 = .ok (.if_icmp .ge 12, 3) := by decide +kernel
theorem dX4_localAt_18 : decode cX4_localAt 18 = .ok (.aload_n 0, 1) := by decide +kernel
theorem dX4_localAt_19 : decode cX4_localAt 19 = .ok (.getfield 9, 3) := by decide +kernel
theorem dX4_localAt_22 : decode cX4_localAt 22 = .ok (.iload_n 1, 1) := by decide +kernel
theorem dX4_localAt_23 : decode cX4_localAt 23 = .ok (.iaload, 1) := by decide +kernel
theorem dX4_localAt_24 : decode cX4_localAt 24 = .ok (.goto 4, 3) := by decide +kernel
theorem dX4_localAt_27 : decode cX4_localAt 27 = .ok (.iconst (-1), 1) := by decide +kernel
theorem dX4_localAt_28 : decode cX4_localAt 28 = .ok (.ireturn, 1) := by decide +kernel
theorem dX4_setLocal_0 : decode cX4_setLocal 0 = .ok (.iload_n 1, 1) := by decide +kernel
theorem dX4_setLocal_1 : decode cX4_setLocal 1 = .ok (.ifCond .lt 24, 3) := by decide +kernel
theorem dX4_setLocal_4 : decode cX4_setLocal 4 = .ok (.iload_n 1, 1) := by decide +kernel
theorem dX4_setLocal_5 : decode cX4_setLocal 5 = .ok (.aload_n 0, 1) := by decide +kernel
theorem dX4_setLocal_6 : decode cX4_setLocal 6 = .ok (.getfield 21, 3) := by decide +kernel
theorem dX4_setLocal_9 : decode cX4_setLocal 9 = .ok (.if_icmp .ge 16, 3) := by decide +kernel
theorem dX4_setLocal_12 : decode cX4_setLocal 12 = .ok (.iload_n 1, 1) := by decide +kernel
theorem dX4_setLocal_13 : decode cX4_setLocal 13 = .ok (.bipush 12, 2) := by decide +kernel
theorem dX4_setLocal_15 : decode cX4_setLocal 15 = .ok (.if_icmp .ge 10, 3) := by decide +kernel
theorem dX4_setLocal_18 : decode cX4_setLocal 18 = .ok (.aload_n 0, 1) := by decide +kernel
theorem dX4_setLocal_19 : decode cX4_setLocal 19 = .ok (.getfield 9, 3) := by decide +kernel
theorem dX4_setLocal_22 : decode cX4_setLocal 22 = .ok (.iload_n 1, 1) := by decide +kernel
theorem dX4_setLocal_23 : decode cX4_setLocal 23 = .ok (.iload_n 2, 1) := by decide +kernel
theorem dX4_setLocal_24 : decode cX4_setLocal 24 = .ok (.iastore, 1) := by decide +kernel
theorem dX4_setLocal_25 : decode cX4_setLocal 25 = .ok (.return_, 1) := by decide +kernel
theorem dX4_placeAt_0 : decode cX4_placeAt 0 = .ok (.iload_n 1, 1) := by decide +kernel
theorem dX4_placeAt_1 : decode cX4_placeAt 1 = .ok (.ifCond .lt 11, 3) := by decide +kernel
theorem dX4_placeAt_4 : decode cX4_placeAt 4 = .ok (.iload_n 1, 1) := by decide +kernel
theorem dX4_placeAt_5 : decode cX4_placeAt 5 = .ok (.aload_n 0, 1) := by decide +kernel
theorem dX4_placeAt_6 : decode cX4_placeAt 6 = .ok (.getfield 28, 3) := by decide +kernel
theorem dX4_placeAt_9 : decode cX4_placeAt 9 = .ok (.if_icmp .lt 5, 3) := by decide +kernel
theorem dX4_placeAt_12 : decode cX4_placeAt 12 = .ok (.iconst (-1), 1) := by decide +kernel
theorem dX4_placeAt_13 : decode cX4_placeAt 13 = .ok (.ireturn, 1) := by decide +kernel
theorem dX4_placeAt_14 : decode cX4_placeAt 14 = .ok (.aload_n 0, 1) := by decide +kernel
theorem dX4_placeAt_15 : decode cX4_placeAt 15 = .ok (.getfield 21, 3) := by decide +kernel
theorem dX4_placeAt_18 : decode cX4_placeAt 18 = .ok (.iload_n 1, 1) := by decide +kernel
theorem dX4_placeAt_19 : decode cX4_placeAt 19 = .ok (.iadd, 1) := by decide +kernel
theorem dX4_placeAt_20 : decode cX4_placeAt 20 = .ok (.istore_n 2, 1) := by decide +kernel
theorem dX4_placeAt_21 : decode cX4_placeAt 21 = .ok (.iload_n 2, 1) := by decide +kernel
theorem dX4_placeAt_22 : decode cX4_placeAt 22 = .ok (.ifCond .lt 18, 3) := by decide +kernel
theorem dX4_placeAt_25 : decode cX4_placeAt 25 = .ok (.iload_n 2, 1) := by decide +kernel
theorem dX4_placeAt_26 : decode cX4_placeAt 26 = .ok (.bipush 12, 2) := by decide +kernel
theorem dX4_placeAt_28 : decode cX4_placeAt 28 = .ok (.if_icmp .ge 12, 3) := by decide +kernel
theorem dX4_placeAt_31 : decode cX4_placeAt 31 = .ok (.aload_n 0, 1) := by decide +kernel
theorem dX4_placeAt_32 : decode cX4_placeAt 32 = .ok (.getfield 9, 3) := by decide +kernel
theorem dX4_placeAt_35 : decode cX4_placeAt 35 = .ok (.iload_n 2, 1) := by decide +kernel
theorem dX4_placeAt_36 : decode cX4_placeAt 36 = .ok (.iaload, 1) := by decide +kernel
theorem dX4_placeAt_37 : decode cX4_placeAt 37 = .ok (.goto 4, 3) := by decide +kernel
theorem dX4_placeAt_40 : decode cX4_placeAt 40 = .ok (.iconst (-1), 1) := by decide +kernel
theorem dX4_placeAt_41 : decode cX4_placeAt 41 = .ok (.ireturn, 1) := by decide +kernel
theorem dX4_put_0 : decode cX4_put 0 = .ok (.aload_n 0, 1) := by decide +kernel
theorem dX4_put_1 : decode cX4_put 1 = .ok (.getfield 21, 3) := by decide +kernel
theorem dX4_put_4 : decode cX4_put 4 = .ok (.aload_n 0, 1) := by decide +kernel
theorem dX4_put_5 : decode cX4_put 5 = .ok (.getfield 28, 3) := by decide +kernel
theorem dX4_put_8 : decode cX4_put 8 = .ok (.iadd, 1) := by decide +kernel
theorem dX4_put_9 : decode cX4_put 9 = .ok (.istore_n 2, 1) := by decide +kernel
theorem dX4_put_10 : decode cX4_put 10 = .ok (.aload_n 0, 1) := by decide +kernel
theorem dX4_put_11 : decode cX4_put 11 = .ok (.getfield 28, 3) := by decide +kernel
theorem dX4_put_14 : decode cX4_put 14 = .ok (.aload_n 0, 1) := by decide +kernel
theorem dX4_put_15 : decode cX4_put 15 = .ok (.getfield 25, 3) := by decide +kernel
theorem dX4_put_18 : decode cX4_put 18 = .ok (.if_icmp .ge 13, 3) := by decide +kernel
theorem dX4_put_21 : decode cX4_put 21 = .ok (.iload_n 2, 1) := by decide +kernel
theorem dX4_put_22 : decode cX4_put 22 = .ok (.ifCond .lt 9, 3) := by decide +kernel
theorem dX4_put_25 : decode cX4_put 25 = .ok (.iload_n 2, 1) := by decide +kernel
theorem dX4_put_26 : decode cX4_put 26 = .ok (.bipush 12, 2) := by decide +kernel
theorem dX4_put_28 : decode cX4_put 28 = .ok (.if_icmp .lt 5, 3) := by decide +kernel
theorem dX4_put_31 : decode cX4_put 31 = .ok (.iconst 0, 1) := by decide +kernel
theorem dX4_put_32 : decode cX4_put 32 = .ok (.ireturn, 1) := by decide +kernel
theorem dX4_put_33 : decode cX4_put 33 = .ok (.aload_n 0, 1) := by decide +kernel
theorem dX4_put_34 : decode cX4_put 34 = .ok (.getfield 9, 3) := by decide +kernel
theorem dX4_put_37 : decode cX4_put 37 = .ok (.iload_n 2, 1) := by decide +kernel
theorem dX4_put_38 : decode cX4_put 38 = .ok (.iload_n 1, 1) := by decide +kernel
theorem dX4_put_39 : decode cX4_put 39 = .ok (.iastore, 1) := by decide +kernel
theorem dX4_put_40 : decode cX4_put 40 = .ok (.aload_n 0, 1) := by decide +kernel
theorem dX4_put_41 : decode cX4_put 41 = .ok (.dup, 1) := by decide +kernel
theorem dX4_put_42 : decode cX4_put 42 = .ok (.getfield 28, 3) := by decide +kernel
theorem dX4_put_45 : decode cX4_put 45 = .ok (.iconst 1, 1) := by decide +kernel
theorem dX4_put_46 : decode cX4_put 46 = .ok (.iadd, 1) := by decide +kernel
theorem dX4_put_47 : decode cX4_put 47 = .ok (.putfield 28, 3) := by decide +kernel
theorem dX4_put_50 : decode cX4_put 50 = .ok (.iconst 1, 1) := by decide +kernel
theorem dX4_put_51 : decode cX4_put 51 = .ok (.ireturn, 1) := by decide +kernel
theorem dX4_meet_0 : decode cX4_meet 0 = .ok (.aload_n 0, 1) := by decide +kernel
theorem dX4_meet_1 : decode cX4_meet 1 = .ok (.getfield 28, 3) := by decide +kernel
theorem dX4_meet_4 : decode cX4_meet 4 = .ok (.aload_n 1, 1) := by decide +kernel
theorem dX4_meet_5 : decode cX4_meet 5 = .ok (.getfield 28, 3) := by decide +kernel
theorem dX4_meet_8 : decode cX4_meet 8 = .ok (.if_icmp .eq 5, 3) := by decide +kernel
theorem dX4_meet_11 : decode cX4_meet 11 = .ok (.iconst 2, 1) := by decide +kernel
theorem dX4_meet_12 : decode cX4_meet 12 = .ok (.ireturn, 1) := by decide +kernel
theorem dX4_meet_13 : decode cX4_meet 13 = .ok (.iconst 0, 1) := by decide +kernel
theorem dX4_meet_14 : decode cX4_meet 14 = .ok (.istore_n 3, 1) := by decide +kernel
theorem dX4_meet_15 : decode cX4_meet 15 = .ok (.iconst 0, 1) := by decide +kernel
theorem dX4_meet_16 : decode cX4_meet 16 = .ok (.istore 4, 2) := by decide +kernel
theorem dX4_meet_18 : decode cX4_meet 18 = .ok (.iload 4, 2) := by decide +kernel
theorem dX4_meet_20 : decode cX4_meet 20 = .ok (.aload_n 0, 1) := by decide +kernel
theorem dX4_meet_21 : decode cX4_meet 21 = .ok (.getfield 21, 3) := by decide +kernel
theorem dX4_meet_24 : decode cX4_meet 24 = .ok (.aload_n 0, 1) := by decide +kernel
theorem dX4_meet_25 : decode cX4_meet 25 = .ok (.getfield 28, 3) := by decide +kernel
theorem dX4_meet_28 : decode cX4_meet 28 = .ok (.iadd, 1) := by decide +kernel
theorem dX4_meet_29 : decode cX4_meet 29 = .ok (.if_icmp .ge 77, 3) := by decide +kernel
theorem dX4_meet_32 : decode cX4_meet 32 = .ok (.iload 4, 2) := by decide +kernel
theorem dX4_meet_34 : decode cX4_meet 34 = .ok (.bipush 12, 2) := by decide +kernel
theorem dX4_meet_36 : decode cX4_meet 36 = .ok (.if_icmp .ge 70, 3) := by decide +kernel
theorem dX4_meet_39 : decode cX4_meet 39 = .ok (.aload_n 2, 1) := by decide +kernel
theorem dX4_meet_40 : decode cX4_meet 40 = .ok (.aload_n 0, 1) := by decide +kernel
theorem dX4_meet_41 : decode cX4_meet 41 = .ok (.getfield 9, 3) := by decide +kernel
theorem dX4_meet_44 : decode cX4_meet 44 = .ok (.iload 4, 2) := by decide +kernel
theorem dX4_meet_46 : decode cX4_meet 46 = .ok (.iaload, 1) := by decide +kernel
theorem dX4_meet_47 : decode cX4_meet 47 = .ok (.aload_n 1, 1) := by decide +kernel
theorem dX4_meet_48 : decode cX4_meet 48 = .ok (.getfield 9, 3) := by decide +kernel
theorem dX4_meet_51 : decode cX4_meet 51 = .ok (.iload 4, 2) := by decide +kernel
theorem dX4_meet_53 : decode cX4_meet 53 = .ok (.iaload, 1) := by decide +kernel
theorem dX4_meet_54 : decode cX4_meet 54 = .ok (.invokevirtual 38, 3) := by decide +kernel
theorem dX4_meet_57 : decode cX4_meet 57 = .ok (.istore 5, 2) := by decide +kernel
theorem dX4_meet_59 : decode cX4_meet 59 = .ok (.iload 4, 2) := by decide +kernel
theorem dX4_meet_61 : decode cX4_meet 61 = .ok (.aload_n 0, 1) := by decide +kernel
theorem dX4_meet_62 : decode cX4_meet 62 = .ok (.getfield 21, 3) := by decide +kernel
theorem dX4_meet_65 : decode cX4_meet 65 = .ok (.if_icmp .lt 12, 3) := by decide +kernel
theorem dX4_meet_68 : decode cX4_meet 68 = .ok (.iload 5, 2) := by decide +kernel
theorem dX4_meet_70 : decode cX4_meet 70 = .ok (.bipush 99, 2) := by decide +kernel
theorem dX4_meet_72 : decode cX4_meet 72 = .ok (.if_icmp .ne 5, 3) := by decide +kernel
theorem dX4_meet_75 : decode cX4_meet 75 = .ok (.iconst 2, 1) := by decide +kernel
theorem dX4_meet_76 : decode cX4_meet 76 = .ok (.ireturn, 1) := by decide +kernel
theorem dX4_meet_77 : decode cX4_meet 77 = .ok (.iload 5, 2) := by decide +kernel
theorem dX4_meet_79 : decode cX4_meet 79 = .ok (.aload_n 0, 1) := by decide +kernel
theorem dX4_meet_80 : decode cX4_meet 80 = .ok (.getfield 9, 3) := by decide +kernel
theorem dX4_meet_83 : decode cX4_meet 83 = .ok (.iload 4, 2) := by decide +kernel
theorem dX4_meet_85 : decode cX4_meet 85 = .ok (.iaload, 1) := by decide +kernel
theorem dX4_meet_86 : decode cX4_meet 86 = .ok (.if_icmp .eq 14, 3) := by decide +kernel
theorem dX4_meet_89 : decode cX4_meet 89 = .ok (.aload_n 0, 1) := by decide +kernel
theorem dX4_meet_90 : decode cX4_meet 90 = .ok (.getfield 9, 3) := by decide +kernel
theorem dX4_meet_93 : decode cX4_meet 93 = .ok (.iload 4, 2) := by decide +kernel
theorem dX4_meet_95 : decode cX4_meet 95 = .ok (.iload 5, 2) := by decide +kernel
theorem dX4_meet_97 : decode cX4_meet 97 = .ok (.iastore, 1) := by decide +kernel
theorem dX4_meet_98 : decode cX4_meet 98 = .ok (.iconst 1, 1) := by decide +kernel
theorem dX4_meet_99 : decode cX4_meet 99 = .ok (.istore_n 3, 1) := by decide +kernel
theorem dX4_meet_100 : decode cX4_meet 100 = .ok (.iinc 4 1, 3) := by decide +kernel
theorem dX4_meet_103 : decode cX4_meet 103 = .ok (.goto (-85), 3) := by decide +kernel
theorem dX4_meet_106 : decode cX4_meet 106 = .ok (.iload_n 3, 1) := by decide +kernel
theorem dX4_meet_107 : decode cX4_meet 107 = .ok (.ireturn, 1) := by decide +kernel
theorem dX5_init_0 : decode cX5_init 0 = .ok (.aload_n 0, 1) := by decide +kernel
theorem dX5_init_1 : decode cX5_init 1 = .ok (.invokespecial 3, 3) := by decide +kernel
theorem dX5_init_4 : decode cX5_init 4 = .ok (.aload_n 0, 1) := by decide +kernel
theorem dX5_init_5 : decode cX5_init 5 = .ok (.aload_n 1, 1) := by decide +kernel
theorem dX5_init_6 : decode cX5_init 6 = .ok (.putfield 9, 3) := by decide +kernel
theorem dX5_init_9 : decode cX5_init 9 = .ok (.aload_n 0, 1) := by decide +kernel
theorem dX5_init_10 : decode cX5_init 10 = .ok (.aload_n 2, 1) := by decide +kernel
theorem dX5_init_11 : decode cX5_init 11 = .ok (.putfield 15, 3) := by decide +kernel
theorem dX5_init_14 : decode cX5_init 14 = .ok (.return_, 1) := by decide +kernel
theorem dX5_perform_0 : decode cX5_perform 0 = .ok (.aload_n 0, 1) := by decide +kernel
theorem dX5_perform_1 : decode cX5_perform 1 = .ok (.iconst 1, 1) := by decide +kernel
theorem dX5_perform_2 : decode cX5_perform 2 = .ok (.putfield 19, 3) := by decide +kernel
theorem dX5_perform_5 : decode cX5_perform 5 = .ok (.aload_n 2, 1) := by decide +kernel
theorem dX5_perform_6 : decode cX5_perform 6 = .ok (.getfield 23, 3) := by decide +kernel
theorem dX5_perform_9 : decode cX5_perform 9 = .ok (.bipush 6, 2) := by decide +kernel
theorem dX5_perform_11 : decode cX5_perform 11 = .ok (.if_icmp .gt 11, 3) := by decide +kernel
theorem dX5_perform_14 : decode cX5_perform 14 = .ok (.aload_n 0, 1) := by decide +kernel
theorem dX5_perform_15 : decode cX5_perform 15 = .ok (.aload_n 2, 1) := by decide +kernel
theorem dX5_perform_16 : decode cX5_perform 16 = .ok (.invokevirtual 29, 3) := by decide +kernel
theorem dX5_perform_19 : decode cX5_perform 19 = .ok (.goto 103, 3) := by decide +kernel
theorem dX5_perform_22 : decode cX5_perform 22 = .ok (.aload_n 2, 1) := by decide +kernel
theorem dX5_perform_23 : decode cX5_perform 23 = .ok (.getfield 23, 3) := by decide +kernel
theorem dX5_perform_26 : decode cX5_perform 26 = .ok (.bipush 18, 2) := by decide +kernel
theorem dX5_perform_28 : decode cX5_perform 28 = .ok (.if_icmp .gt 14, 3) := by decide +kernel
theorem dX5_perform_31 : decode cX5_perform 31 = .ok (.aload_n 0, 1) := by decide +kernel
theorem dX5_perform_32 : decode cX5_perform 32 = .ok (.aload_n 2, 1) := by decide +kernel
theorem dX5_perform_33 : decode cX5_perform 33 = .ok (.getfield 23, 3) := by decide +kernel
theorem dX5_perform_36 : decode cX5_perform 36 = .ok (.invokevirtual 33, 3) := by decide +kernel
theorem dX5_perform_39 : decode cX5_perform 39 = .ok (.goto 83, 3) := by decide +kernel
theorem dX5_perform_42 : decode cX5_perform 42 = .ok (.aload_n 2, 1) := by decide +kernel
theorem dX5_perform_43 : decode cX5_perform 43 = .ok (.getfield 23, 3) := by decide +kernel
theorem dX5_perform_46 : decode cX5_perform 46 = .ok (.bipush 25, 2) := by decide +kernel
theorem dX5_perform_48 : decode cX5_perform 48 = .ok (.if_icmp .gt 14, 3) := by decide +kernel
theorem dX5_perform_51 : decode cX5_perform 51 = .ok (.aload_n 0, 1) := by decide +kernel
theorem dX5_perform_52 : decode cX5_perform 52 = .ok (.aload_n 2, 1) := by decide +kernel
theorem dX5_perform_53 : decode cX5_perform 53 = .ok (.getfield 23, 3) := by decide +kernel
theorem dX5_perform_56 : decode cX5_perform 56 = .ok (.invokevirtual 37, 3) := by decide +kernel
theorem dX5_perform_59 : decode cX5_perform 59 = .ok (.goto 63, 3) := by decide +kernel
theorem dX5_perform_62 : decode cX5_perform 62 = .ok (.aload_n 2, 1) := by decide +kernel
theorem dX5_perform_63 : decode cX5_perform 63 = .ok (.getfield 23, 3) := by decide +kernel
theorem dX5_perform_66 : decode cX5_perform 66 = .ok (.bipush 30, 2) := by decide +kernel
theorem dX5_perform_68 : decode cX5_perform 68 = .ok (.if_icmp .gt 11, 3) := by decide +kernel
theorem dX5_perform_71 : decode cX5_perform 71 = .ok (.aload_n 0, 1) := by decide +kernel
theorem dX5_perform_72 : decode cX5_perform 72 = .ok (.aload_n 2, 1) := by decide +kernel
theorem dX5_perform_73 : decode cX5_perform 73 = .ok (.invokevirtual 40, 3) := by decide +kernel
theorem dX5_perform_76 : decode cX5_perform 76 = .ok (.goto 46, 3) := by decide +kernel
theorem dX5_perform_79 : decode cX5_perform 79 = .ok (.aload_n 2, 1) := by decide +kernel
theorem dX5_perform_80 : decode cX5_perform 80 = .ok (.getfield 23, 3) := by decide +kernel
theorem dX5_perform_83 : decode cX5_perform 83 = .ok (.bipush 34, 2) := by decide +kernel
theorem dX5_perform_85 : decode cX5_perform 85 = .ok (.if_icmp .gt 11, 3) := by decide +kernel
theorem dX5_perform_88 : decode cX5_perform 88 = .ok (.aload_n 0, 1) := by decide +kernel
theorem dX5_perform_89 : decode cX5_perform 89 = .ok (.aload_n 2, 1) := by decide +kernel
theorem dX5_perform_90 : decode cX5_perform 90 = .ok (.invokevirtual 43, 3) := by decide +kernel
theorem dX5_perform_93 : decode cX5_perform 93 = .ok (.goto 29, 3) := by decide +kernel
theorem dX5_perform_96 : decode cX5_perform 96 = .ok (.aload_n 2, 1) := by decide +kernel
theorem dX5_perform_97 : decode cX5_perform 97 = .ok (.getfield 23, 3) := by decide +kernel
theorem dX5_perform_100 : decode cX5_perform 100 = .ok (.bipush 36, 2) := by decide +kernel
theorem dX5_perform_102 : decode cX5_perform 102 = .ok (.if_icmp .gt 11, 3) := by decide +kernel
theorem dX5_perform_105 : decode cX5_perform 105 = .ok (.aload_n 0, 1) := by decide +kernel
theorem dX5_perform_106 : decode cX5_perform 106 = .ok (.aload_n 2, 1) := by decide +kernel
theorem dX5_perform_107 : decode cX5_perform 107 = .ok (.invokevirtual 46, 3) := by decide +kernel
theorem dX5_perform_110 : decode cX5_perform 110 = .ok (.goto 12, 3) := by decide +kernel
theorem dX5_perform_113 : decode cX5_perform 113 = .ok (.aload_n 0, 1) := by decide +kernel
theorem dX5_perform_114 : decode cX5_perform 114 = .ok (.aload_n 1, 1) := by decide +kernel
theorem dX5_perform_115 : decode cX5_perform 115 = .ok (.aload_n 2, 1) := by decide +kernel
theorem dX5_perform_116 : decode cX5_perform 116 = .ok (.getfield 23, 3) := by decide +kernel
theorem dX5_perform_119 : decode cX5_perform 119 = .ok (.invokevirtual 49, 3) := by decide +kernel
theorem dX5_perform_122 : decode cX5_perform 122 = .ok (.aload_n 0, 1) := by decide +kernel
theorem dX5_perform_123 : decode cX5_perform 123 = .ok (.getfield 19, 3) := by decide +kernel
theorem dX5_perform_126 : decode cX5_perform 126 = .ok (.ireturn, 1) := by decide +kernel
theorem dX5_move_0 : decode cX5_move 0 = .ok (.aload_n 1, 1) := by decide +kernel
theorem dX5_move_1 : decode cX5_move 1 = .ok (.getfield 23, 3) := by decide +kernel
theorem dX5_move_4 : decode cX5_move 4 = .ok (.tableswitch 101 0 5 #[40, 48, 57, 68, 86, 94], 40) := by decide +kernel
theorem dX5_move_44 : decode cX5_move 44 = .ok (.aload_n 0, 1) := by decide +kernel
theorem dX5_move_45 : decode cX5_move 45 = .ok (.iconst 0, 1) := by decide +kernel
theorem dX5_move_46 : decode cX5_move 46 = .ok (.invokevirtual 53, 3) := by decide +kernel
theorem dX5_move_49 : decode cX5_move 49 = .ok (.goto 60, 3) := by decide +kernel
theorem dX5_move_52 : decode cX5_move 52 = .ok (.aload_n 0, 1) := by decide +kernel
theorem dX5_move_53 : decode cX5_move 53 = .ok (.bipush 97, 2) := by decide +kernel
theorem dX5_move_55 : decode cX5_move 55 = .ok (.invokevirtual 53, 3) := by decide +kernel
theorem dX5_move_58 : decode cX5_move 58 = .ok (.goto 51, 3) := by decide +kernel
theorem dX5_move_61 : decode cX5_move 61 = .ok (.aload_n 0, 1) := by decide +kernel
theorem dX5_move_62 : decode cX5_move 62 = .ok (.aload_n 1, 1) := by decide +kernel
theorem dX5_move_63 : decode cX5_move 63 = .ok (.getfield 56, 3) := by decide +kernel
theorem dX5_move_66 : decode cX5_move 66 = .ok (.invokevirtual 59, 3) := by decide +kernel
theorem dX5_move_69 : decode cX5_move 69 = .ok (.goto 40, 3) := by decide +kernel
theorem dX5_move_72 : decode cX5_move 72 = .ok (.aload_n 0, 1) := by decide +kernel
theorem dX5_move_73 : decode cX5_move 73 = .ok (.getfield 15, 3) := by decide +kernel
theorem dX5_move_76 : decode cX5_move 76 = .ok (.aload_n 1, 1) := by decide +kernel
theorem dX5_move_77 : decode cX5_move 77 = .ok (.getfield 56, 3) := by decide +kernel
theorem dX5_move_80 : decode cX5_move 80 = .ok (.aload_n 0, 1) := by decide +kernel
theorem dX5_move_81 : decode cX5_move 81 = .ok (.invokevirtual 62, 3) := by decide +kernel
theorem dX5_move_84 : decode cX5_move 84 = .ok (.invokevirtual 66, 3) := by decide +kernel
theorem dX5_move_87 : decode cX5_move 87 = .ok (.goto 22, 3) := by decide +kernel
theorem dX5_move_90 : decode cX5_move 90 = .ok (.aload_n 0, 1) := by decide +kernel
theorem dX5_move_91 : decode cX5_move 91 = .ok (.invokevirtual 62, 3) := by decide +kernel
theorem dX5_move_94 : decode cX5_move 94 = .ok (.pop, 1) := by decide +kernel
theorem dX5_move_95 : decode cX5_move 95 = .ok (.goto 14, 3) := by decide +kernel
theorem dX5_move_98 : decode cX5_move 98 = .ok (.aload_n 0, 1) := by decide +kernel
theorem dX5_move_99 : decode cX5_move 99 = .ok (.invokevirtual 72, 3) := by decide +kernel
theorem dX5_move_102 : decode cX5_move 102 = .ok (.goto 7, 3) := by decide +kernel
theorem dX5_move_105 : decode cX5_move 105 = .ok (.aload_n 0, 1) := by decide +kernel
theorem dX5_move_106 : decode cX5_move 106 = .ok (.invokevirtual 75, 3) := by decide +kernel
theorem dX5_move_109 : decode cX5_move 109 = .ok (.return_, 1) := by decide +kernel
theorem dX5_load_0 : decode cX5_load 0 = .ok (.aload_n 0, 1) := by decide +kernel
theorem dX5_load_1 : decode cX5_load 1 = .ok (.getfield 15, 3) := by decide +kernel
theorem dX5_load_4 : decode cX5_load 4 = .ok (.iload_n 1, 1) := by decide +kernel
theorem dX5_load_5 : decode cX5_load 5 = .ok (.invokevirtual 78, 3) := by decide +kernel
theorem dX5_load_8 : decode cX5_load 8 = .ok (.istore_n 2, 1) := by decide +kernel
theorem dX5_load_9 : decode cX5_load 9 = .ok (.aload_n 0, 1) := by decide +kernel
theorem dX5_load_10 : decode cX5_load 10 = .ok (.iload_n 2, 1) := by decide +kernel
theorem dX5_load_11 : decode cX5_load 11 = .ok (.bipush 99, 2) := by decide +kernel
theorem dX5_load_13 : decode cX5_load 13 = .ok (.if_icmp .eq 12, 3) := by decide +kernel
theorem dX5_load_16 : decode cX5_load 16 = .ok (.iload_n 2, 1) := by decide +kernel
theorem dX5_load_17 : decode cX5_load 17 = .ok (.iconst (-1), 1) := by decide +kernel
theorem dX5_load_18 : decode cX5_load 18 = .ok (.if_icmp .eq 7, 3) := by decide +kernel
theorem dX5_load_21 : decode cX5_load 21 = .ok (.iconst 1, 1) := by decide +kernel
theorem dX5_load_22 : decode cX5_load 22 = .ok (.goto 4, 3) := by decide +kernel
theorem dX5_load_25 : decode cX5_load 25 = .ok (.iconst 0, 1) := by decide +kernel
theorem dX5_load_26 : decode cX5_load 26 = .ok (.invokevirtual 82, 3) := by decide +kernel
theorem dX5_load_29 : decode cX5_load 29 = .ok (.aload_n 0, 1) := by decide +kernel
theorem dX5_load_30 : decode cX5_load 30 = .ok (.iload_n 2, 1) := by decide +kernel
theorem dX5_load_31 : decode cX5_load 31 = .ok (.invokevirtual 53, 3) := by decide +kernel
theorem dX5_load_34 : decode cX5_load 34 = .ok (.return_, 1) := by decide +kernel
theorem dX5_duplicate_0 : decode cX5_duplicate 0 = .ok (.aload_n 0, 1) := by decide +kernel
theorem dX5_duplicate_1 : decode cX5_duplicate 1 = .ok (.invokevirtual 62, 3) := by decide +kernel
theorem dX5_duplicate_4 : decode cX5_duplicate 4 = .ok (.istore_n 1, 1) := by decide +kernel
theorem dX5_duplicate_5 : decode cX5_duplicate 5 = .ok (.aload_n 0, 1) := by decide +kernel
theorem dX5_duplicate_6 : decode cX5_duplicate 6 = .ok (.iload_n 1, 1) := by decide +kernel
theorem dX5_duplicate_7 : decode cX5_duplicate 7 = .ok (.invokevirtual 53, 3) := by decide +kernel
theorem dX5_duplicate_10 : decode cX5_duplicate 10 = .ok (.aload_n 0, 1) := by decide +kernel
theorem dX5_duplicate_11 : decode cX5_duplicate 11 = .ok (.iload_n 1, 1) := by decide +kernel
theorem dX5_duplicate_12 : decode cX5_duplicate 12 = .ok (.invokevirtual 53, 3) := by decide +kernel
theorem dX5_duplicate_15 : decode cX5_duplicate 15 = .ok (.return_, 1) := by decide +kernel
theorem dX5_swap_0 : decode cX5_swap 0 = .ok (.aload_n 0, 1) := by decide +kernel
theorem dX5_swap_1 : decode cX5_swap 1 = .ok (.invokevirtual 62, 3) := by decide +kernel
theorem dX5_swap_4 : decode cX5_swap 4 = .ok (.istore_n 1, 1) := by decide +kernel
theorem dX5_swap_5 : decode cX5_swap 5 = .ok (.aload_n 0, 1) := by decide +kernel
theorem dX5_swap_6 : decode cX5_swap 6 = .ok (.invokevirtual 62, 3) := by decide +kernel
theorem dX5_swap_9 : decode cX5_swap 9 = .ok (.istore_n 2, 1) := by decide +kernel
theorem dX5_swap_10 : decode cX5_swap 10 = .ok (.aload_n 0, 1) := by decide +kernel
theorem dX5_swap_11 : decode cX5_swap 11 = .ok (.iload_n 1, 1) := by decide +kernel
theorem dX5_swap_12 : decode cX5_swap 12 = .ok (.invokevirtual 53, 3) := by decide +kernel
theorem dX5_swap_15 : decode cX5_swap 15 = .ok (.aload_n 0, 1) := by decide +kernel
theorem dX5_swap_16 : decode cX5_swap 16 = .ok (.iload_n 2, 1) := by decide +kernel
theorem dX5_swap_17 : decode cX5_swap 17 = .ok (.invokevirtual 53, 3) := by decide +kernel
theorem dX5_swap_20 : decode cX5_swap 20 = .ok (.return_, 1) := by decide +kernel
theorem dX5_reckon_0 : decode cX5_reckon 0 = .ok (.aload_n 0, 1) := by decide +kernel
theorem dX5_reckon_1 : decode cX5_reckon 1 = .ok (.invokevirtual 86, 3) := by decide +kernel
theorem dX5_reckon_4 : decode cX5_reckon 4 = .ok (.iload_n 1, 1) := by decide +kernel
theorem dX5_reckon_5 : decode cX5_reckon 5 = .ok (.bipush 17, 2) := by decide +kernel
theorem dX5_reckon_7 : decode cX5_reckon 7 = .ok (.if_icmp .gt 7, 3) := by decide +kernel
theorem dX5_reckon_10 : decode cX5_reckon 10 = .ok (.aload_n 0, 1) := by decide +kernel
theorem dX5_reckon_11 : decode cX5_reckon 11 = .ok (.invokevirtual 86, 3) := by decide +kernel
theorem dX5_reckon_14 : decode cX5_reckon 14 = .ok (.aload_n 0, 1) := by decide +kernel
theorem dX5_reckon_15 : decode cX5_reckon 15 = .ok (.iconst 0, 1) := by decide +kernel
theorem dX5_reckon_16 : decode cX5_reckon 16 = .ok (.invokevirtual 53, 3) := by decide +kernel
theorem dX5_reckon_19 : decode cX5_reckon 19 = .ok (.return_, 1) := by decide +kernel
theorem dX5_branch_0 : decode cX5_branch 0 = .ok (.iload_n 1, 1) := by decide +kernel
theorem dX5_branch_1 : decode cX5_branch 1 = .ok (.tableswitch 75 19 24 #[39, 46, 57, 57, 64, 64], 39) := by decide +kernel
theorem dX5_branch_40 : decode cX5_branch 40 = .ok (.aload_n 0, 1) := by decide +kernel
theorem dX5_branch_41 : decode cX5_branch 41 = .ok (.invokevirtual 86, 3) := by decide +kernel
theorem dX5_branch_44 : decode cX5_branch 44 = .ok (.goto 32, 3) := by decide +kernel
theorem dX5_branch_47 : decode cX5_branch 47 = .ok (.aload_n 0, 1) := by decide +kernel
theorem dX5_branch_48 : decode cX5_branch 48 = .ok (.invokevirtual 86, 3) := by decide +kernel
theorem dX5_branch_51 : decode cX5_branch 51 = .ok (.aload_n 0, 1) := by decide +kernel
theorem dX5_branch_52 : decode cX5_branch 52 = .ok (.invokevirtual 86, 3) := by decide +kernel
theorem dX5_branch_55 : decode cX5_branch 55 = .ok (.goto 21, 3) := by decide +kernel
theorem dX5_branch_58 : decode cX5_branch 58 = .ok (.aload_n 0, 1) := by decide +kernel
theorem dX5_branch_59 : decode cX5_branch 59 = .ok (.invokevirtual 89, 3) := by decide +kernel
theorem dX5_branch_62 : decode cX5_branch 62 = .ok (.goto 14, 3) := by decide +kernel
theorem dX5_branch_65 : decode cX5_branch 65 = .ok (.aload_n 0, 1) := by decide +kernel
theorem dX5_branch_66 : decode cX5_branch 66 = .ok (.invokevirtual 89, 3) := by decide +kernel
theorem dX5_branch_69 : decode cX5_branch 69 = .ok (.aload_n 0, 1) := by decide +kernel
theorem dX5_branch_70 : decode cX5_branch 70 = .ok (.invokevirtual 89, 3) := by decide +kernel
theorem dX5_branch_73 : decode cX5_branch 73 = .ok (.goto 3, 3) := by decide +kernel
theorem dX5_branch_76 : decode cX5_branch 76 = .ok (.return_, 1) := by decide +kernel
theorem dX5_useObject_0 : decode cX5_useObject 0 = .ok (.iconst 1, 1) := by decide +kernel
theorem dX5_useObject_1 : decode cX5_useObject 1 = .ok (.aload_n 1, 1) := by decide +kernel
theorem dX5_useObject_2 : decode cX5_useObject 2 = .ok (.getfield 56, 3) := by decide +kernel
theorem dX5_useObject_5 : decode cX5_useObject 5 = .ok (.iadd, 1) := by decide +kernel
theorem dX5_useObject_6 : decode cX5_useObject 6 = .ok (.istore_n 2, 1) := by decide +kernel
theorem dX5_useObject_7 : decode cX5_useObject 7 = .ok (.aload_n 1, 1) := by decide +kernel
theorem dX5_useObject_8 : decode cX5_useObject 8 = .ok (.getfield 23, 3) := by decide +kernel
theorem dX5_useObject_11 : decode cX5_useObject 11 = .ok (.tableswitch 103 26 29 #[29, 37, 64, 91], 29) := by decide +kernel
theorem dX5_useObject_40 : decode cX5_useObject 40 = .ok (.aload_n 0, 1) := by decide +kernel
theorem dX5_useObject_41 : decode cX5_useObject 41 = .ok (.iload_n 2, 1) := by decide +kernel
theorem dX5_useObject_42 : decode cX5_useObject 42 = .ok (.invokevirtual 53, 3) := by decide +kernel
theorem dX5_useObject_45 : decode cX5_useObject 45 = .ok (.goto 78, 3) := by decide +kernel
theorem dX5_useObject_48 : decode cX5_useObject 48 = .ok (.aload_n 0, 1) := by decide +kernel
theorem dX5_useObject_49 : decode cX5_useObject 49 = .ok (.iload_n 2, 1) := by decide +kernel
theorem dX5_useObject_50 : decode cX5_useObject 50 = .ok (.invokevirtual 92, 3) := by decide +kernel
theorem dX5_useObject_53 : decode cX5_useObject 53 = .ok (.aload_n 0, 1) := by decide +kernel
theorem dX5_useObject_54 : decode cX5_useObject 54 = .ok (.aload_n 0, 1) := by decide +kernel
theorem dX5_useObject_55 : decode cX5_useObject 55 = .ok (.getfield 9, 3) := by decide +kernel
theorem dX5_useObject_58 : decode cX5_useObject 58 = .ok (.aload_n 1, 1) := by decide +kernel
theorem dX5_useObject_59 : decode cX5_useObject 59 = .ok (.getfield 56, 3) := by decide +kernel
theorem dX5_useObject_62 : decode cX5_useObject 62 = .ok (.aload_n 1, 1) := by decide +kernel
theorem dX5_useObject_63 : decode cX5_useObject 63 = .ok (.getfield 95, 3) := by decide +kernel
theorem dX5_useObject_66 : decode cX5_useObject 66 = .ok (.invokevirtual 98, 3) := by decide +kernel
theorem dX5_useObject_69 : decode cX5_useObject 69 = .ok (.invokevirtual 53, 3) := by decide +kernel
theorem dX5_useObject_72 : decode cX5_useObject 72 = .ok (.goto 51, 3) := by decide +kernel
theorem dX5_useObject_75 : decode cX5_useObject 75 = .ok (.aload_n 0, 1) := by decide +kernel
theorem dX5_useObject_76 : decode cX5_useObject 76 = .ok (.aload_n 0, 1) := by decide +kernel
theorem dX5_useObject_77 : decode cX5_useObject 77 = .ok (.getfield 9, 3) := by decide +kernel
theorem dX5_useObject_80 : decode cX5_useObject 80 = .ok (.aload_n 1, 1) := by decide +kernel
theorem dX5_useObject_81 : decode cX5_useObject 81 = .ok (.getfield 56, 3) := by decide +kernel
theorem dX5_useObject_84 : decode cX5_useObject 84 = .ok (.aload_n 1, 1) := by decide +kernel
theorem dX5_useObject_85 : decode cX5_useObject 85 = .ok (.getfield 95, 3) := by decide +kernel
theorem dX5_useObject_88 : decode cX5_useObject 88 = .ok (.invokevirtual 98, 3) := by decide +kernel
theorem dX5_useObject_91 : decode cX5_useObject 91 = .ok (.invokevirtual 92, 3) := by decide +kernel
theorem dX5_useObject_94 : decode cX5_useObject 94 = .ok (.aload_n 0, 1) := by decide +kernel
theorem dX5_useObject_95 : decode cX5_useObject 95 = .ok (.iload_n 2, 1) := by decide +kernel
theorem dX5_useObject_96 : decode cX5_useObject 96 = .ok (.invokevirtual 92, 3) := by decide +kernel
theorem dX5_useObject_99 : decode cX5_useObject 99 = .ok (.goto 24, 3) := by decide +kernel
theorem dX5_useObject_102 : decode cX5_useObject 102 = .ok (.aload_n 0, 1) := by decide +kernel
theorem dX5_useObject_103 : decode cX5_useObject 103 = .ok (.invokevirtual 89, 3) := by decide +kernel
theorem dX5_useObject_106 : decode cX5_useObject 106 = .ok (.aload_n 0, 1) := by decide +kernel
theorem dX5_useObject_107 : decode cX5_useObject 107 = .ok (.iconst 0, 1) := by decide +kernel
theorem dX5_useObject_108 : decode cX5_useObject 108 = .ok (.invokevirtual 53, 3) := by decide +kernel
theorem dX5_useObject_111 : decode cX5_useObject 111 = .ok (.goto 12, 3) := by decide +kernel
theorem dX5_useObject_114 : decode cX5_useObject 114 = .ok (.aload_n 0, 1) := by decide +kernel
theorem dX5_useObject_115 : decode cX5_useObject 115 = .ok (.invokevirtual 89, 3) := by decide +kernel
theorem dX5_useObject_118 : decode cX5_useObject 118 = .ok (.aload_n 0, 1) := by decide +kernel
theorem dX5_useObject_119 : decode cX5_useObject 119 = .ok (.iload_n 2, 1) := by decide +kernel
theorem dX5_useObject_120 : decode cX5_useObject 120 = .ok (.invokevirtual 53, 3) := by decide +kernel
theorem dX5_useObject_123 : decode cX5_useObject 123 = .ok (.return_, 1) := by decide +kernel
theorem dX5_useRow_0 : decode cX5_useRow 0 = .ok (.aload_n 1, 1) := by decide +kernel
theorem dX5_useRow_1 : decode cX5_useRow 1 = .ok (.getfield 23, 3) := by decide +kernel
theorem dX5_useRow_4 : decode cX5_useRow 4 = .ok (.tableswitch 90 31 33 #[28, 46, 59], 28) := by decide +kernel
theorem dX5_useRow_32 : decode cX5_useRow 32 = .ok (.aload_n 0, 1) := by decide +kernel
theorem dX5_useRow_33 : decode cX5_useRow 33 = .ok (.invokevirtual 86, 3) := by decide +kernel
theorem dX5_useRow_36 : decode cX5_useRow 36 = .ok (.aload_n 0, 1) := by decide +kernel
theorem dX5_useRow_37 : decode cX5_useRow 37 = .ok (.aload_n 1, 1) := by decide +kernel
theorem dX5_useRow_38 : decode cX5_useRow 38 = .ok (.getfield 56, 3) := by decide +kernel
theorem dX5_useRow_41 : decode cX5_useRow 41 = .ok (.invokestatic 104, 3) := by decide +kernel
theorem dX5_useRow_44 : decode cX5_useRow 44 = .ok (.invokevirtual 53, 3) := by decide +kernel
theorem dX5_useRow_47 : decode cX5_useRow 47 = .ok (.goto 94, 3) := by decide +kernel
theorem dX5_useRow_50 : decode cX5_useRow 50 = .ok (.aload_n 0, 1) := by decide +kernel
theorem dX5_useRow_51 : decode cX5_useRow 51 = .ok (.invokevirtual 107, 3) := by decide +kernel
theorem dX5_useRow_54 : decode cX5_useRow 54 = .ok (.pop, 1) := by decide +kernel
theorem dX5_useRow_55 : decode cX5_useRow 55 = .ok (.aload_n 0, 1) := by decide +kernel
theorem dX5_useRow_56 : decode cX5_useRow 56 = .ok (.iconst 0, 1) := by decide +kernel
theorem dX5_useRow_57 : decode cX5_useRow 57 = .ok (.invokevirtual 53, 3) := by decide +kernel
theorem dX5_useRow_60 : decode cX5_useRow 60 = .ok (.goto 81, 3) := by decide +kernel
theorem dX5_useRow_63 : decode cX5_useRow 63 = .ok (.aload_n 0, 1) := by decide +kernel
theorem dX5_useRow_64 : decode cX5_useRow 64 = .ok (.invokevirtual 86, 3) := by decide +kernel
theorem dX5_useRow_67 : decode cX5_useRow 67 = .ok (.aload_n 0, 1) := by decide +kernel
theorem dX5_useRow_68 : decode cX5_useRow 68 = .ok (.invokevirtual 107, 3) := by decide +kernel
theorem dX5_useRow_71 : decode cX5_useRow 71 = .ok (.istore_n 2, 1) := by decide +kernel
theorem dX5_useRow_72 : decode cX5_useRow 72 = .ok (.aload_n 0, 1) := by decide +kernel
theorem dX5_useRow_73 : decode cX5_useRow 73 = .ok (.iload_n 2, 1) := by decide +kernel
theorem dX5_useRow_74 : decode cX5_useRow 74 = .ok (.bipush 97, 2) := by decide +kernel
theorem dX5_useRow_76 : decode cX5_useRow 76 = .ok (.if_icmp .ne 8, 3) := by decide +kernel
theorem dX5_useRow_79 : decode cX5_useRow 79 = .ok (.bipush 97, 2) := by decide +kernel
theorem dX5_useRow_81 : decode cX5_useRow 81 = .ok (.goto 7, 3) := by decide +kernel
theorem dX5_useRow_84 : decode cX5_useRow 84 = .ok (.iload_n 2, 1) := by decide +kernel
theorem dX5_useRow_85 : decode cX5_useRow 85 = .ok (.invokestatic 110, 3) := by decide +kernel
theorem dX5_useRow_88 : decode cX5_useRow 88 = .ok (.invokevirtual 53, 3) := by decide +kernel
theorem dX5_useRow_91 : decode cX5_useRow 91 = .ok (.goto 50, 3) := by decide +kernel
theorem dX5_useRow_94 : decode cX5_useRow 94 = .ok (.aload_n 0, 1) := by decide +kernel
theorem dX5_useRow_95 : decode cX5_useRow 95 = .ok (.invokevirtual 62, 3) := by decide +kernel
theorem dX5_useRow_98 : decode cX5_useRow 98 = .ok (.istore_n 3, 1) := by decide +kernel
theorem dX5_useRow_99 : decode cX5_useRow 99 = .ok (.aload_n 0, 1) := by decide +kernel
theorem dX5_useRow_100 : decode cX5_useRow 100 = .ok (.invokevirtual 86, 3) := by decide +kernel
theorem dX5_useRow_103 : decode cX5_useRow 103 = .ok (.aload_n 0, 1) := by decide +kernel
theorem dX5_useRow_104 : decode cX5_useRow 104 = .ok (.invokevirtual 107, 3) := by decide +kernel
theorem dX5_useRow_107 : decode cX5_useRow 107 = .ok (.istore 4, 2) := by decide +kernel
theorem dX5_useRow_109 : decode cX5_useRow 109 = .ok (.aload_n 0, 1) := by decide +kernel
theorem dX5_useRow_110 : decode cX5_useRow 110 = .ok (.iload 4, 2) := by decide +kernel
theorem dX5_useRow_112 : decode cX5_useRow 112 = .ok (.bipush 97, 2) := by decide +kernel
theorem dX5_useRow_114 : decode cX5_useRow 114 = .ok (.if_icmp .eq 19, 3) := by decide +kernel
theorem dX5_useRow_117 : decode cX5_useRow 117 = .ok (.aload_n 0, 1) := by decide +kernel
theorem dX5_useRow_118 : decode cX5_useRow 118 = .ok (.getfield 9, 3) := by decide +kernel
theorem dX5_useRow_121 : decode cX5_useRow 121 = .ok (.iload_n 3, 1) := by decide +kernel
theorem dX5_useRow_122 : decode cX5_useRow 122 = .ok (.iload 4, 2) := by decide +kernel
theorem dX5_useRow_124 : decode cX5_useRow 124 = .ok (.invokestatic 110, 3) := by decide +kernel
theorem dX5_useRow_127 : decode cX5_useRow 127 = .ok (.invokevirtual 113, 3) := by decide +kernel
theorem dX5_useRow_130 : decode cX5_useRow 130 = .ok (.ifCond .eq 7, 3) := by decide +kernel
theorem dX5_useRow_133 : decode cX5_useRow 133 = .ok (.iconst 1, 1) := by decide +kernel
theorem dX5_useRow_134 : decode cX5_useRow 134 = .ok (.goto 4, 3) := by decide +kernel
theorem dX5_useRow_137 : decode cX5_useRow 137 = .ok (.iconst 0, 1) := by decide +kernel
theorem dX5_useRow_138 : decode cX5_useRow 138 = .ok (.invokevirtual 82, 3) := by decide +kernel
theorem dX5_useRow_141 : decode cX5_useRow 141 = .ok (.return_, 1) := by decide +kernel
theorem dX5_invoke_0 : decode cX5_invoke 0 = .ok (.aload_n 1, 1) := by decide +kernel
theorem dX5_invoke_1 : decode cX5_invoke 1 = .ok (.getfield 23, 3) := by decide +kernel
theorem dX5_invoke_4 : decode cX5_invoke 4 = .ok (.bipush 36, 2) := by decide +kernel
theorem dX5_invoke_6 : decode cX5_invoke 6 = .ok (.if_icmp .ne 7, 3) := by decide +kernel
theorem dX5_invoke_9 : decode cX5_invoke 9 = .ok (.iconst 1, 1) := by decide +kernel
theorem dX5_invoke_10 : decode cX5_invoke 10 = .ok (.goto 4, 3) := by decide +kernel
theorem dX5_invoke_13 : decode cX5_invoke 13 = .ok (.iconst 0, 1) := by decide +kernel
theorem dX5_invoke_14 : decode cX5_invoke 14 = .ok (.istore_n 2, 1) := by decide +kernel
theorem dX5_invoke_15 : decode cX5_invoke 15 = .ok (.iload_n 2, 1) := by decide +kernel
theorem dX5_invoke_16 : decode cX5_invoke 16 = .ok (.ifCond .eq 21, 3) := by decide +kernel
theorem dX5_invoke_19 : decode cX5_invoke 19 = .ok (.aload_n 0, 1) := by decide +kernel
theorem dX5_invoke_20 : decode cX5_invoke 20 = .ok (.getfield 9, 3) := by decide +kernel
theorem dX5_invoke_23 : decode cX5_invoke 23 = .ok (.aload_n 1, 1) := by decide +kernel
theorem dX5_invoke_24 : decode cX5_invoke 24 = .ok (.getfield 56, 3) := by decide +kernel
theorem dX5_invoke_27 : decode cX5_invoke 27 = .ok (.aload_n 1, 1) := by decide +kernel
theorem dX5_invoke_28 : decode cX5_invoke 28 = .ok (.getfield 95, 3) := by decide +kernel
theorem dX5_invoke_31 : decode cX5_invoke 31 = .ok (.invokevirtual 117, 3) := by decide +kernel
theorem dX5_invoke_34 : decode cX5_invoke 34 = .ok (.goto 14, 3) := by decide +kernel
theorem dX5_invoke_37 : decode cX5_invoke 37 = .ok (.aload_n 0, 1) := by decide +kernel
theorem dX5_invoke_38 : decode cX5_invoke 38 = .ok (.getfield 9, 3) := by decide +kernel
theorem dX5_invoke_41 : decode cX5_invoke 41 = .ok (.aload_n 1, 1) := by decide +kernel
theorem dX5_invoke_42 : decode cX5_invoke 42 = .ok (.getfield 56, 3) := by decide +kernel
theorem dX5_invoke_45 : decode cX5_invoke 45 = .ok (.invokevirtual 121, 3) := by decide +kernel
theorem dX5_invoke_48 : decode cX5_invoke 48 = .ok (.astore_n 3, 1) := by decide +kernel
theorem dX5_invoke_49 : decode cX5_invoke 49 = .ok (.aload_n 3, 1) := by decide +kernel
theorem dX5_invoke_50 : decode cX5_invoke 50 = .ok (.ifnonnull 9, 3) := by decide +kernel
theorem dX5_invoke_53 : decode cX5_invoke 53 = .ok (.aload_n 0, 1) := by decide +kernel
theorem dX5_invoke_54 : decode cX5_invoke 54 = .ok (.iconst 0, 1) := by decide +kernel
theorem dX5_invoke_55 : decode cX5_invoke 55 = .ok (.putfield 19, 3) := by decide +kernel
theorem dX5_invoke_58 : decode cX5_invoke 58 = .ok (.return_, 1) := by decide +kernel
theorem dX5_invoke_59 : decode cX5_invoke 59 = .ok (.iload_n 2, 1) := by decide +kernel
theorem dX5_invoke_60 : decode cX5_invoke 60 = .ok (.ifCond .eq 7, 3) := by decide +kernel
theorem dX5_invoke_63 : decode cX5_invoke 63 = .ok (.iconst 1, 1) := by decide +kernel
theorem dX5_invoke_64 : decode cX5_invoke 64 = .ok (.goto 4, 3) := by decide +kernel
theorem dX5_invoke_67 : decode cX5_invoke 67 = .ok (.iconst 0, 1) := by decide +kernel
theorem dX5_invoke_68 : decode cX5_invoke 68 = .ok (.istore 4, 2) := by decide +kernel
theorem dX5_invoke_70 : decode cX5_invoke 70 = .ok (.aload_n 3, 1) := by decide +kernel
theorem dX5_invoke_71 : decode cX5_invoke 71 = .ok (.getfield 125, 3) := by decide +kernel
theorem dX5_invoke_74 : decode cX5_invoke 74 = .ok (.iconst 1, 1) := by decide +kernel
theorem dX5_invoke_75 : decode cX5_invoke 75 = .ok (.isub, 1) := by decide +kernel
theorem dX5_invoke_76 : decode cX5_invoke 76 = .ok (.istore 5, 2) := by decide +kernel
theorem dX5_invoke_78 : decode cX5_invoke 78 = .ok (.iload 5, 2) := by decide +kernel
theorem dX5_invoke_80 : decode cX5_invoke 80 = .ok (.iload 4, 2) := by decide +kernel
theorem dX5_invoke_82 : decode cX5_invoke 82 = .ok (.if_icmp .lt 19, 3) := by decide +kernel
theorem dX5_invoke_85 : decode cX5_invoke 85 = .ok (.aload_n 0, 1) := by decide +kernel
theorem dX5_invoke_86 : decode cX5_invoke 86 = .ok (.aload_n 3, 1) := by decide +kernel
theorem dX5_invoke_87 : decode cX5_invoke 87 = .ok (.iload 5, 2) := by decide +kernel
theorem dX5_invoke_89 : decode cX5_invoke 89 = .ok (.invokevirtual 130, 3) := by decide +kernel
theorem dX5_invoke_92 : decode cX5_invoke 92 = .ok (.invokevirtual 92, 3) := by decide +kernel
theorem dX5_invoke_95 : decode cX5_invoke 95 = .ok (.iinc 5 (-1), 3) := by decide +kernel
theorem dX5_invoke_98 : decode cX5_invoke 98 = .ok (.goto (-20), 3) := by decide +kernel
theorem dX5_invoke_101 : decode cX5_invoke 101 = .ok (.iload_n 2, 1) := by decide +kernel
theorem dX5_invoke_102 : decode cX5_invoke 102 = .ok (.ifCond .eq 13, 3) := by decide +kernel
theorem dX5_invoke_105 : decode cX5_invoke 105 = .ok (.aload_n 0, 1) := by decide +kernel
theorem dX5_invoke_106 : decode cX5_invoke 106 = .ok (.iconst 1, 1) := by decide +kernel
theorem dX5_invoke_107 : decode cX5_invoke 107 = .ok (.aload_n 1, 1) := by decide +kernel
theorem dX5_invoke_108 : decode cX5_invoke 108 = .ok (.getfield 56, 3) := by decide +kernel
theorem dX5_invoke_111 : decode cX5_invoke 111 = .ok (.iadd, 1) := by decide +kernel
theorem dX5_invoke_112 : decode cX5_invoke 112 = .ok (.invokevirtual 92, 3) := by decide +kernel
theorem dX5_invoke_115 : decode cX5_invoke 115 = .ok (.aload_n 3, 1) := by decide +kernel
theorem dX5_invoke_116 : decode cX5_invoke 116 = .ok (.getfield 133, 3) := by decide +kernel
theorem dX5_invoke_119 : decode cX5_invoke 119 = .ok (.iconst (-1), 1) := by decide +kernel
theorem dX5_invoke_120 : decode cX5_invoke 120 = .ok (.if_icmp .eq 11, 3) := by decide +kernel
theorem dX5_invoke_123 : decode cX5_invoke 123 = .ok (.aload_n 0, 1) := by decide +kernel
theorem dX5_invoke_124 : decode cX5_invoke 124 = .ok (.aload_n 3, 1) := by decide +kernel
theorem dX5_invoke_125 : decode cX5_invoke 125 = .ok (.getfield 133, 3) := by decide +kernel
theorem dX5_invoke_128 : decode cX5_invoke 128 = .ok (.invokevirtual 53, 3) := by decide +kernel
theorem dX5_invoke_131 : decode cX5_invoke 131 = .ok (.return_, 1) := by decide +kernel
theorem dX5_leaveOrTalk_0 : decode cX5_leaveOrTalk 0 = .ok (.iload_n 2, 1) := by decide +kernel
theorem dX5_leaveOrTalk_1 : decode cX5_leaveOrTalk 1 = .ok (.tableswitch 117 37 40 #[31, 51, 79, 109], 31) := by decide +kernel
theorem dX5_leaveOrTalk_32 : decode cX5_leaveOrTalk 32 = .ok (.aload_n 0, 1) := by decide +kernel
theorem dX5_leaveOrTalk_33 : decode cX5_leaveOrTalk 33 = .ok (.aload_n 1, 1) := by decide +kernel
theorem dX5_leaveOrTalk_34 : decode cX5_leaveOrTalk 34 = .ok (.getfield 133, 3) := by decide +kernel
theorem dX5_leaveOrTalk_37 : decode cX5_leaveOrTalk 37 = .ok (.iconst (-1), 1) := by decide +kernel
theorem dX5_leaveOrTalk_38 : decode cX5_leaveOrTalk 38 = .ok (.if_icmp .ne 7, 3) := by decide +kernel
theorem dX5_leaveOrTalk_41 : decode cX5_leaveOrTalk 41 = .ok (.iconst 1, 1) := by decide +kernel
theorem dX5_leaveOrTalk_42 : decode cX5_leaveOrTalk 42 = .ok (.goto 4, 3) := by decide +kernel
theorem dX5_leaveOrTalk_45 : decode cX5_leaveOrTalk 45 = .ok (.iconst 0, 1) := by decide +kernel
theorem dX5_leaveOrTalk_46 : decode cX5_leaveOrTalk 46 = .ok (.invokevirtual 82, 3) := by decide +kernel
theorem dX5_leaveOrTalk_49 : decode cX5_leaveOrTalk 49 = .ok (.goto 73, 3) := by decide +kernel
theorem dX5_leaveOrTalk_52 : decode cX5_leaveOrTalk 52 = .ok (.aload_n 0, 1) := by decide +kernel
theorem dX5_leaveOrTalk_53 : decode cX5_leaveOrTalk 53 = .ok (.aload_n 1, 1) := by decide +kernel
theorem dX5_leaveOrTalk_54 : decode cX5_leaveOrTalk 54 = .ok (.getfield 133, 3) := by decide +kernel
theorem dX5_leaveOrTalk_57 : decode cX5_leaveOrTalk 57 = .ok (.iconst (-1), 1) := by decide +kernel
theorem dX5_leaveOrTalk_58 : decode cX5_leaveOrTalk 58 = .ok (.if_icmp .eq 7, 3) := by decide +kernel
theorem dX5_leaveOrTalk_61 : decode cX5_leaveOrTalk 61 = .ok (.iconst 1, 1) := by decide +kernel
theorem dX5_leaveOrTalk_62 : decode cX5_leaveOrTalk 62 = .ok (.goto 4, 3) := by decide +kernel
theorem dX5_leaveOrTalk_65 : decode cX5_leaveOrTalk 65 = .ok (.iconst 0, 1) := by decide +kernel
theorem dX5_leaveOrTalk_66 : decode cX5_leaveOrTalk 66 = .ok (.invokevirtual 82, 3) := by decide +kernel
theorem dX5_leaveOrTalk_69 : decode cX5_leaveOrTalk 69 = .ok (.aload_n 0, 1) := by decide +kernel
theorem dX5_leaveOrTalk_70 : decode cX5_leaveOrTalk 70 = .ok (.aload_n 1, 1) := by decide +kernel
theorem dX5_leaveOrTalk_71 : decode cX5_leaveOrTalk 71 = .ok (.getfield 133, 3) := by decide +kernel
theorem dX5_leaveOrTalk_74 : decode cX5_leaveOrTalk 74 = .ok (.invokevirtual 92, 3) := by decide +kernel
theorem dX5_leaveOrTalk_77 : decode cX5_leaveOrTalk 77 = .ok (.goto 45, 3) := by decide +kernel
theorem dX5_leaveOrTalk_80 : decode cX5_leaveOrTalk 80 = .ok (.aload_n 0, 1) := by decide +kernel
theorem dX5_leaveOrTalk_81 : decode cX5_leaveOrTalk 81 = .ok (.invokevirtual 62, 3) := by decide +kernel
theorem dX5_leaveOrTalk_84 : decode cX5_leaveOrTalk 84 = .ok (.istore_n 3, 1) := by decide +kernel
theorem dX5_leaveOrTalk_85 : decode cX5_leaveOrTalk 85 = .ok (.aload_n 0, 1) := by decide +kernel
theorem dX5_leaveOrTalk_86 : decode cX5_leaveOrTalk 86 = .ok (.iload_n 3, 1) := by decide +kernel
theorem dX5_leaveOrTalk_87 : decode cX5_leaveOrTalk 87 = .ok (.invokestatic 136, 3) := by decide +kernel
theorem dX5_leaveOrTalk_90 : decode cX5_leaveOrTalk 90 = .ok (.ifCond .ne 9, 3) := by decide +kernel
theorem dX5_leaveOrTalk_93 : decode cX5_leaveOrTalk 93 = .ok (.iload_n 3, 1) := by decide +kernel
theorem dX5_leaveOrTalk_94 : decode cX5_leaveOrTalk 94 = .ok (.bipush 97, 2) := by decide +kernel
theorem dX5_leaveOrTalk_96 : decode cX5_leaveOrTalk 96 = .ok (.if_icmp .ne 7, 3) := by decide +kernel
theorem dX5_leaveOrTalk_99 : decode cX5_leaveOrTalk 99 = .ok (.iconst 1, 1) := by decide +kernel
theorem dX5_leaveOrTalk_100 : decode cX5_leaveOrTalk 100 = .ok (.goto 4, 3) := by decide +kernel
theorem dX5_leaveOrTalk_103 : decode cX5_leaveOrTalk 103 = .ok (.iconst 0, 1) := by decide +kernel
theorem dX5_leaveOrTalk_104 : decode cX5_leaveOrTalk 104 = .ok (.invokevirtual 82, 3) := by decide +kernel
theorem dX5_leaveOrTalk_107 : decode cX5_leaveOrTalk 107 = .ok (.goto 15, 3) := by decide +kernel
theorem dX5_leaveOrTalk_110 : decode cX5_leaveOrTalk 110 = .ok (.aload_n 0, 1) := by decide +kernel
theorem dX5_leaveOrTalk_111 : decode cX5_leaveOrTalk 111 = .ok (.iconst 0, 1) := by decide +kernel
theorem dX5_leaveOrTalk_112 : decode cX5_leaveOrTalk 112 = .ok (.invokevirtual 53, 3) := by decide +kernel
theorem dX5_leaveOrTalk_115 : decode cX5_leaveOrTalk 115 = .ok (.goto 7, 3) := by decide +kernel
theorem dX5_leaveOrTalk_118 : decode cX5_leaveOrTalk 118 = .ok (.aload_n 0, 1) := by decide +kernel
theorem dX5_leaveOrTalk_119 : decode cX5_leaveOrTalk 119 = .ok (.invokevirtual 86, 3) := by decide +kernel
theorem dX5_leaveOrTalk_122 : decode cX5_leaveOrTalk 122 = .ok (.return_, 1) := by decide +kernel
theorem dX5_need_0 : decode cX5_need 0 = .ok (.aload_n 0, 1) := by decide +kernel
theorem dX5_need_1 : decode cX5_need 1 = .ok (.aload_n 0, 1) := by decide +kernel
theorem dX5_need_2 : decode cX5_need 2 = .ok (.getfield 19, 3) := by decide +kernel
theorem dX5_need_5 : decode cX5_need 5 = .ok (.ifCond .eq 11, 3) := by decide +kernel
theorem dX5_need_8 : decode cX5_need 8 = .ok (.iload_n 1, 1) := by decide +kernel
theorem dX5_need_9 : decode cX5_need 9 = .ok (.ifCond .eq 7, 3) := by decide +kernel
theorem dX5_need_12 : decode cX5_need 12 = .ok (.iconst 1, 1) := by decide +kernel
theorem dX5_need_13 : decode cX5_need 13 = .ok (.goto 4, 3) := by decide +kernel
theorem dX5_need_16 : decode cX5_need 16 = .ok (.iconst 0, 1) := by decide +kernel
theorem dX5_need_17 : decode cX5_need 17 = .ok (.putfield 19, 3) := by decide +kernel
theorem dX5_need_20 : decode cX5_need 20 = .ok (.return_, 1) := by decide +kernel
theorem dX5_put_0 : decode cX5_put 0 = .ok (.aload_n 0, 1) := by decide +kernel
theorem dX5_put_1 : decode cX5_put 1 = .ok (.aload_n 0, 1) := by decide +kernel
theorem dX5_put_2 : decode cX5_put 2 = .ok (.getfield 15, 3) := by decide +kernel
theorem dX5_put_5 : decode cX5_put 5 = .ok (.iload_n 1, 1) := by decide +kernel
theorem dX5_put_6 : decode cX5_put 6 = .ok (.invokevirtual 140, 3) := by decide +kernel
theorem dX5_put_9 : decode cX5_put 9 = .ok (.invokevirtual 82, 3) := by decide +kernel
theorem dX5_put_12 : decode cX5_put 12 = .ok (.return_, 1) := by decide +kernel
theorem dX5_take_0 : decode cX5_take 0 = .ok (.aload_n 0, 1) := by decide +kernel
theorem dX5_take_1 : decode cX5_take 1 = .ok (.getfield 15, 3) := by decide +kernel
theorem dX5_take_4 : decode cX5_take 4 = .ok (.aload_n 0, 1) := by decide +kernel
theorem dX5_take_5 : decode cX5_take 5 = .ok (.getfield 15, 3) := by decide +kernel
theorem dX5_take_8 : decode cX5_take 8 = .ok (.getfield 142, 3) := by decide +kernel
theorem dX5_take_11 : decode cX5_take 11 = .ok (.iconst 1, 1) := by decide +kernel
theorem dX5_take_12 : decode cX5_take 12 = .ok (.isub, 1) := by decide +kernel
theorem dX5_take_13 : decode cX5_take 13 = .ok (.invokevirtual 145, 3) := by decide +kernel
theorem dX5_take_16 : decode cX5_take 16 = .ok (.istore_n 1, 1) := by decide +kernel
theorem dX5_take_17 : decode cX5_take 17 = .ok (.iload_n 1, 1) := by decide +kernel
theorem dX5_take_18 : decode cX5_take 18 = .ok (.iconst (-1), 1) := by decide +kernel
theorem dX5_take_19 : decode cX5_take 19 = .ok (.if_icmp .ne 11, 3) := by decide +kernel
theorem dX5_take_22 : decode cX5_take 22 = .ok (.aload_n 0, 1) := by decide +kernel
theorem dX5_take_23 : decode cX5_take 23 = .ok (.iconst 0, 1) := by decide +kernel
theorem dX5_take_24 : decode cX5_take 24 = .ok (.putfield 19, 3) := by decide +kernel
theorem dX5_take_27 : decode cX5_take 27 = .ok (.goto 16, 3) := by decide +kernel
theorem dX5_take_30 : decode cX5_take 30 = .ok (.aload_n 0, 1) := by decide +kernel
theorem dX5_take_31 : decode cX5_take 31 = .ok (.getfield 15, 3) := by decide +kernel
theorem dX5_take_34 : decode cX5_take 34 = .ok (.dup, 1) := by decide +kernel
theorem dX5_take_35 : decode cX5_take 35 = .ok (.getfield 142, 3) := by decide +kernel
theorem dX5_take_38 : decode cX5_take 38 = .ok (.iconst 1, 1) := by decide +kernel
theorem dX5_take_39 : decode cX5_take 39 = .ok (.isub, 1) := by decide +kernel
theorem dX5_take_40 : decode cX5_take 40 = .ok (.putfield 142, 3) := by decide +kernel
theorem dX5_take_43 : decode cX5_take 43 = .ok (.iload_n 1, 1) := by decide +kernel
theorem dX5_take_44 : decode cX5_take 44 = .ok (.ireturn, 1) := by decide +kernel
theorem dX5_takeInt_0 : decode cX5_takeInt 0 = .ok (.aload_n 0, 1) := by decide +kernel
theorem dX5_takeInt_1 : decode cX5_takeInt 1 = .ok (.aload_n 0, 1) := by decide +kernel
theorem dX5_takeInt_2 : decode cX5_takeInt 2 = .ok (.invokevirtual 62, 3) := by decide +kernel
theorem dX5_takeInt_5 : decode cX5_takeInt 5 = .ok (.ifCond .ne 7, 3) := by decide +kernel
theorem dX5_takeInt_8 : decode cX5_takeInt 8 = .ok (.iconst 1, 1) := by decide +kernel
theorem dX5_takeInt_9 : decode cX5_takeInt 9 = .ok (.goto 4, 3) := by decide +kernel
theorem dX5_takeInt_12 : decode cX5_takeInt 12 = .ok (.iconst 0, 1) := by decide +kernel
theorem dX5_takeInt_13 : decode cX5_takeInt 13 = .ok (.invokevirtual 82, 3) := by decide +kernel
theorem dX5_takeInt_16 : decode cX5_takeInt 16 = .ok (.return_, 1) := by decide +kernel
theorem dX5_takeReference_0 : decode cX5_takeReference 0 = .ok (.aload_n 0, 1) := by decide +kernel
theorem dX5_takeReference_1 : decode cX5_takeReference 1 = .ok (.aload_n 0, 1) := by decide +kernel
theorem dX5_takeReference_2 : decode cX5_takeReference 2 = .ok (.invokevirtual 62, 3) := by decide +kernel
theorem dX5_takeReference_5 : decode cX5_takeReference 5 = .ok (.invokestatic 148, 3) := by decide +kernel
theorem dX5_takeReference_8 : decode cX5_takeReference 8 = .ok (.invokevirtual 82, 3) := by decide +kernel
theorem dX5_takeReference_11 : decode cX5_takeReference 11 = .ok (.return_, 1) := by decide +kernel
theorem dX5_takeRow_0 : decode cX5_takeRow 0 = .ok (.aload_n 0, 1) := by decide +kernel
theorem dX5_takeRow_1 : decode cX5_takeRow 1 = .ok (.invokevirtual 62, 3) := by decide +kernel
theorem dX5_takeRow_4 : decode cX5_takeRow 4 = .ok (.istore_n 1, 1) := by decide +kernel
theorem dX5_takeRow_5 : decode cX5_takeRow 5 = .ok (.aload_n 0, 1) := by decide +kernel
theorem dX5_takeRow_6 : decode cX5_takeRow 6 = .ok (.iload_n 1, 1) := by decide +kernel
theorem dX5_takeRow_7 : decode cX5_takeRow 7 = .ok (.invokestatic 151, 3) := by decide +kernel
theorem dX5_takeRow_10 : decode cX5_takeRow 10 = .ok (.ifCond .ne 9, 3) := by decide +kernel
theorem dX5_takeRow_13 : decode cX5_takeRow 13 = .ok (.iload_n 1, 1) := by decide +kernel
theorem dX5_takeRow_14 : decode cX5_takeRow 14 = .ok (.bipush 97, 2) := by decide +kernel
theorem dX5_takeRow_16 : decode cX5_takeRow 16 = .ok (.if_icmp .ne 7, 3) := by decide +kernel
theorem dX5_takeRow_19 : decode cX5_takeRow 19 = .ok (.iconst 1, 1) := by decide +kernel
theorem dX5_takeRow_20 : decode cX5_takeRow 20 = .ok (.goto 4, 3) := by decide +kernel
theorem dX5_takeRow_23 : decode cX5_takeRow 23 = .ok (.iconst 0, 1) := by decide +kernel
theorem dX5_takeRow_24 : decode cX5_takeRow 24 = .ok (.invokevirtual 82, 3) := by decide +kernel
theorem dX5_takeRow_27 : decode cX5_takeRow 27 = .ok (.iload_n 1, 1) := by decide +kernel
theorem dX5_takeRow_28 : decode cX5_takeRow 28 = .ok (.ireturn, 1) := by decide +kernel
theorem dX5_takeInto_0 : decode cX5_takeInto 0 = .ok (.aload_n 0, 1) := by decide +kernel
theorem dX5_takeInto_1 : decode cX5_takeInto 1 = .ok (.aload_n 0, 1) := by decide +kernel
theorem dX5_takeInto_2 : decode cX5_takeInto 2 = .ok (.getfield 9, 3) := by decide +kernel
theorem dX5_takeInto_5 : decode cX5_takeInto 5 = .ok (.aload_n 0, 1) := by decide +kernel
theorem dX5_takeInto_6 : decode cX5_takeInto 6 = .ok (.invokevirtual 62, 3) := by decide +kernel
theorem dX5_takeInto_9 : decode cX5_takeInto 9 = .ok (.iload_n 1, 1) := by decide +kernel
theorem dX5_takeInto_10 : decode cX5_takeInto 10 = .ok (.invokevirtual 113, 3) := by decide +kernel
theorem dX5_takeInto_13 : decode cX5_takeInto 13 = .ok (.invokevirtual 82, 3) := by decide +kernel
theorem dX5_takeInto_16 : decode cX5_takeInto 16 = .ok (.return_, 1) := by decide +kernel
theorem dX6_init_0 : decode cX6_init 0 = .ok (.aload_n 0, 1) := by decide +kernel
theorem dX6_init_1 : decode cX6_init 1 = .ok (.invokespecial 3, 3) := by decide +kernel
theorem dX6_init_4 : decode cX6_init 4 = .ok (.aload_n 0, 1) := by decide +kernel
theorem dX6_init_5 : decode cX6_init 5 = .ok (.bipush 32, 2) := by decide +kernel
theorem dX6_init_7 : decode cX6_init 7 = .ok (.anewarray 9, 3) := by decide +kernel
theorem dX6_init_10 : decode cX6_init 10 = .ok (.putfield 11, 3) := by decide +kernel
theorem dX6_init_13 : decode cX6_init 13 = .ok (.aload_n 0, 1) := by decide +kernel
theorem dX6_init_14 : decode cX6_init 14 = .ok (.bipush 64, 2) := by decide +kernel
theorem dX6_init_16 : decode cX6_init 16 = .ok (.anewarray 17, 3) := by decide +kernel
theorem dX6_init_19 : decode cX6_init 19 = .ok (.putfield 19, 3) := by decide +kernel
theorem dX6_init_22 : decode cX6_init 22 = .ok (.return_, 1) := by decide +kernel
theorem dX6_kindAt_0 : decode cX6_kindAt 0 = .ok (.iload_n 1, 1) := by decide +kernel
theorem dX6_kindAt_1 : decode cX6_kindAt 1 = .ok (.ifCond .lt 26, 3) := by decide +kernel
theorem dX6_kindAt_4 : decode cX6_kindAt 4 = .ok (.iload_n 1, 1) := by decide +kernel
theorem dX6_kindAt_5 : decode cX6_kindAt 5 = .ok (.aload_n 0, 1) := by decide +kernel
theorem dX6_kindAt_6 : decode cX6_kindAt 6 = .ok (.getfield 23, 3) := by decide +kernel
theorem dX6_kindAt_9 : decode cX6_kindAt 9 = .ok (.if_icmp .ge 18, 3) := by decide +kernel
theorem dX6_kindAt_12 : decode cX6_kindAt 12 = .ok (.iload_n 1, 1) := by decide +kernel
theorem dX6_kindAt_13 : decode cX6_kindAt 13 = .ok (.bipush 32, 2) := by decide +kernel
theorem dX6_kindAt_15 : decode cX6_kindAt 15 = .ok (.if_icmp .ge 12, 3) := by decide +kernel
theorem dX6_kindAt_18 : decode cX6_kindAt 18 = .ok (.aload_n 0, 1) := by decide +kernel
theorem dX6_kindAt_19 : decode cX6_kindAt 19 = .ok (.getfield 11, 3) := by decide +kernel
theorem dX6_kindAt_22 : decode cX6_kindAt 22 = .ok (.iload_n 1, 1) := by decide +kernel
theorem dX6_kindAt_23 : decode cX6_kindAt 23 = .ok (.aaload, 1) := by decide +kernel
theorem dX6_kindAt_24 : decode cX6_kindAt 24 = .ok (.goto 4, 3) := by decide +kernel
theorem dX6_kindAt_27 : decode cX6_kindAt 27 = .ok (.aconst_null, 1) := by decide +kernel
theorem dX6_kindAt_28 : decode cX6_kindAt 28 = .ok (.areturn, 1) := by decide +kernel
theorem dX6_methodAt_0 : decode cX6_methodAt 0 = .ok (.iload_n 1, 1) := by decide +kernel
theorem dX6_methodAt_1 : decode cX6_methodAt 1 = .ok (.ifCond .lt 26, 3) := by decide +kernel
theorem dX6_methodAt_4 : decode cX6_methodAt 4 = .ok (.iload_n 1, 1) := by decide +kernel
theorem dX6_methodAt_5 : decode cX6_methodAt 5 = .ok (.aload_n 0, 1) := by decide +kernel
theorem dX6_methodAt_6 : decode cX6_methodAt 6 = .ok (.getfield 27, 3) := by decide +kernel
theorem dX6_methodAt_9 : decode cX6_methodAt 9 = .ok (.if_icmp .ge 18, 3) := by decide +kernel
theorem dX6_methodAt_12 : decode cX6_methodAt 12 = .ok (.iload_n 1, 1) := by decide +kernel
theorem dX6_methodAt_13 : decode cX6_methodAt 13 = .ok (.bipush 64, 2) := by decide +kernel
theorem dX6_methodAt_15 : decode cX6_methodAt 15 = .ok (.if_icmp .ge 12, 3) := by decide +kernel
theorem dX6_methodAt_18 : decode cX6_methodAt 18 = .ok (.aload_n 0, 1) := by decide +kernel
theorem dX6_methodAt_19 : decode cX6_methodAt 19 = .ok (.getfield 19, 3) := by decide +kernel
theorem dX6_methodAt_22 : decode cX6_methodAt 22 = .ok (.iload_n 1, 1) := by decide +kernel
theorem dX6_methodAt_23 : decode cX6_methodAt 23 = .ok (.aaload, 1) := by decide +kernel
theorem dX6_methodAt_24 : decode cX6_methodAt 24 = .ok (.goto 4, 3) := by decide +kernel
theorem dX6_methodAt_27 : decode cX6_methodAt 27 = .ok (.aconst_null, 1) := by decide +kernel
theorem dX6_methodAt_28 : decode cX6_methodAt 28 = .ok (.areturn, 1) := by decide +kernel
theorem dX6_addKind_0 : decode cX6_addKind 0 = .ok (.aload_n 0, 1) := by decide +kernel
theorem dX6_addKind_1 : decode cX6_addKind 1 = .ok (.getfield 23, 3) := by decide +kernel
theorem dX6_addKind_4 : decode cX6_addKind 4 = .ok (.bipush 32, 2) := by decide +kernel
theorem dX6_addKind_6 : decode cX6_addKind 6 = .ok (.if_icmp .lt 6, 3) := by decide +kernel
theorem dX6_addKind_9 : decode cX6_addKind 9 = .ok (.bipush (-2), 2) := by decide +kernel
theorem dX6_addKind_11 : decode cX6_addKind 11 = .ok (.ireturn, 1) := by decide +kernel
theorem dX6_addKind_12 : decode cX6_addKind 12 = .ok (.aload_n 0, 1) := by decide +kernel
theorem dX6_addKind_13 : decode cX6_addKind 13 = .ok (.getfield 11, 3) := by decide +kernel
theorem dX6_addKind_16 : decode cX6_addKind 16 = .ok (.aload_n 0, 1) := by decide +kernel
theorem dX6_addKind_17 : decode cX6_addKind 17 = .ok (.getfield 23, 3) := by decide +kernel
theorem dX6_addKind_20 : decode cX6_addKind 20 = .ok (.new 9, 3) := by decide +kernel
theorem dX6_addKind_23 : decode cX6_addKind 23 = .ok (.dup, 1) := by decide +kernel
theorem dX6_addKind_24 : decode cX6_addKind 24 = .ok (.aload_n 0, 1) := by decide +kernel
theorem dX6_addKind_25 : decode cX6_addKind 25 = .ok (.getfield 23, 3) := by decide +kernel
theorem dX6_addKind_28 : decode cX6_addKind 28 = .ok (.aload_n 1, 1) := by decide +kernel
theorem dX6_addKind_29 : decode cX6_addKind 29 = .ok (.invokespecial 30, 3) := by decide +kernel
theorem dX6_addKind_32 : decode cX6_addKind 32 = .ok (.aastore, 1) := by decide +kernel
theorem dX6_addKind_33 : decode cX6_addKind 33 = .ok (.aload_n 0, 1) := by decide +kernel
theorem dX6_addKind_34 : decode cX6_addKind 34 = .ok (.dup, 1) := by decide +kernel
theorem dX6_addKind_35 : decode cX6_addKind 35 = .ok (.getfield 23, 3) := by decide +kernel
theorem dX6_addKind_38 : decode cX6_addKind 38 = .ok (.iconst 1, 1) := by decide +kernel
theorem dX6_addKind_39 : decode cX6_addKind 39 = .ok (.iadd, 1) := by decide +kernel
theorem dX6_addKind_40 : decode cX6_addKind 40 = .ok (.putfield 23, 3) := by decide +kernel
theorem dX6_addKind_43 : decode cX6_addKind 43 = .ok (.aload_n 1, 1) := by decide +kernel
