theorem dX1_init_0 : decode cX1_init 0 = .ok (.aload_n 0, 1) := by decide +kernel
theorem dX1_init_1 : decode cX1_init 1 = .ok (.invokespecial 1, 3) := by decide +kernel
theorem dX1_init_4 : decode cX1_init 4 = .ok (.aload_n 0, 1) := by decide +kernel
theorem dX1_init_5 : decode cX1_init 5 = .ok (.bipush 24, 2) := by decide +kernel
theorem dX1_init_7 : decode cX1_init 7 = .ok (.newarray .int, 2) := by decide +kernel
theorem dX1_init_9 : decode cX1_init 9 = .ok (.putfield 7, 3) := by decide +kernel
theorem dX1_init_12 : decode cX1_init 12 = .ok (.aload_n 0, 1) := by decide +kernel
theorem dX1_init_13 : decode cX1_init 13 = .ok (.bipush 24, 2) := by decide +kernel
theorem dX1_init_15 : decode cX1_init 15 = .ok (.newarray .int, 2) := by decide +kernel
theorem dX1_init_17 : decode cX1_init 17 = .ok (.putfield 13, 3) := by decide +kernel
theorem dX1_init_20 : decode cX1_init 20 = .ok (.aload_n 0, 1) := by decide +kernel
theorem dX1_init_21 : decode cX1_init 21 = .ok (.sipush 408, 3) := by decide +kernel
theorem dX1_init_24 : decode cX1_init 24 = .ok (.newarray .int, 2) := by decide +kernel
theorem dX1_init_26 : decode cX1_init 26 = .ok (.putfield 16, 3) := by decide +kernel
theorem dX1_init_29 : decode cX1_init 29 = .ok (.aload_n 0, 1) := by decide +kernel
theorem dX1_init_30 : decode cX1_init 30 = .ok (.bipush 24, 2) := by decide +kernel
theorem dX1_init_32 : decode cX1_init 32 = .ok (.newarray .int, 2) := by decide +kernel
theorem dX1_init_34 : decode cX1_init 34 = .ok (.putfield 19, 3) := by decide +kernel
theorem dX1_init_37 : decode cX1_init 37 = .ok (.aload_n 0, 1) := by decide +kernel
theorem dX1_init_38 : decode cX1_init 38 = .ok (.bipush 24, 2) := by decide +kernel
theorem dX1_init_40 : decode cX1_init 40 = .ok (.newarray .boolean, 2) := by decide +kernel
theorem dX1_init_42 : decode cX1_init 42 = .ok (.putfield 22, 3) := by decide +kernel
theorem dX1_init_45 : decode cX1_init 45 = .ok (.aload_n 0, 1) := by decide +kernel
theorem dX1_init_46 : decode cX1_init 46 = .ok (.bipush 24, 2) := by decide +kernel
theorem dX1_init_48 : decode cX1_init 48 = .ok (.newarray .int, 2) := by decide +kernel
theorem dX1_init_50 : decode cX1_init 50 = .ok (.putfield 26, 3) := by decide +kernel
theorem dX1_init_53 : decode cX1_init 53 = .ok (.aload_n 0, 1) := by decide +kernel
theorem dX1_init_54 : decode cX1_init 54 = .ok (.bipush 24, 2) := by decide +kernel
theorem dX1_init_56 : decode cX1_init 56 = .ok (.newarray .int, 2) := by decide +kernel
theorem dX1_init_58 : decode cX1_init 58 = .ok (.putfield 29, 3) := by decide +kernel
theorem dX1_init_61 : decode cX1_init 61 = .ok (.aload_n 0, 1) := by decide +kernel
theorem dX1_init_62 : decode cX1_init 62 = .ok (.bipush 24, 2) := by decide +kernel
theorem dX1_init_64 : decode cX1_init 64 = .ok (.newarray .int, 2) := by decide +kernel
theorem dX1_init_66 : decode cX1_init 66 = .ok (.putfield 32, 3) := by decide +kernel
theorem dX1_init_69 : decode cX1_init 69 = .ok (.aload_n 0, 1) := by decide +kernel
theorem dX1_init_70 : decode cX1_init 70 = .ok (.iconst 0, 1) := by decide +kernel
theorem dX1_init_71 : decode cX1_init 71 = .ok (.putfield 35, 3) := by decide +kernel
theorem dX1_init_74 : decode cX1_init 74 = .ok (.return_, 1) := by decide +kernel
theorem dX1_within_0 : decode cX1_within 0 = .ok (.iload_n 0, 1) := by decide +kernel
theorem dX1_within_1 : decode cX1_within 1 = .ok (.iload_n 1, 1) := by decide +kernel
theorem dX1_within_2 : decode cX1_within 2 = .ok (.if_icmp .lt 12, 3) := by decide +kernel
theorem dX1_within_5 : decode cX1_within 5 = .ok (.iload_n 0, 1) := by decide +kernel
theorem dX1_within_6 : decode cX1_within 6 = .ok (.iload_n 2, 1) := by decide +kernel
theorem dX1_within_7 : decode cX1_within 7 = .ok (.if_icmp .gt 7, 3) := by decide +kernel
theorem dX1_within_10 : decode cX1_within 10 = .ok (.iconst 1, 1) := by decide +kernel
theorem dX1_within_11 : decode cX1_within 11 = .ok (.goto 4, 3) := by decide +kernel
theorem dX1_within_14 : decode cX1_within 14 = .ok (.iconst 0, 1) := by decide +kernel
theorem dX1_within_15 : decode cX1_within 15 = .ok (.ireturn, 1) := by decide +kernel
theorem dX1_isNode_0 : decode cX1_isNode 0 = .ok (.iload_n 1, 1) := by decide +kernel
theorem dX1_isNode_1 : decode cX1_isNode 1 = .ok (.iconst 0, 1) := by decide +kernel
theorem dX1_isNode_2 : decode cX1_isNode 2 = .ok (.aload_n 0, 1) := by decide +kernel
theorem dX1_isNode_3 : decode cX1_isNode 3 = .ok (.getfield 35, 3) := by decide +kernel
theorem dX1_isNode_6 : decode cX1_isNode 6 = .ok (.iconst 1, 1) := by decide +kernel
theorem dX1_isNode_7 : decode cX1_isNode 7 = .ok (.isub, 1) := by decide +kernel
theorem dX1_isNode_8 : decode cX1_isNode 8 = .ok (.invokestatic 39, 3) := by decide +kernel
theorem dX1_isNode_11 : decode cX1_isNode 11 = .ok (.ireturn, 1) := by decide +kernel
theorem dX1_colourOf_0 : decode cX1_colourOf 0 = .ok (.aload_n 0, 1) := by decide +kernel
theorem dX1_colourOf_1 : decode cX1_colourOf 1 = .ok (.getfield 16, 3) := by decide +kernel
theorem dX1_colourOf_4 : decode cX1_colourOf 4 = .ok (.bipush 24, 2) := by decide +kernel
theorem dX1_colourOf_6 : decode cX1_colourOf 6 = .ok (.aload_n 0, 1) := by decide +kernel
theorem dX1_colourOf_7 : decode cX1_colourOf 7 = .ok (.getfield 43, 3) := by decide +kernel
theorem dX1_colourOf_10 : decode cX1_colourOf 10 = .ok (.bipush 17, 2) := by decide +kernel
theorem dX1_colourOf_12 : decode cX1_colourOf 12 = .ok (.irem, 1) := by decide +kernel
theorem dX1_colourOf_13 : decode cX1_colourOf 13 = .ok (.imul, 1) := by decide +kernel
theorem dX1_colourOf_14 : decode cX1_colourOf 14 = .ok (.iload_n 1, 1) := by decide +kernel
theorem dX1_colourOf_15 : decode cX1_colourOf 15 = .ok (.iadd, 1) := by decide +kernel
theorem dX1_colourOf_16 : decode cX1_colourOf 16 = .ok (.iaload, 1) := by decide +kernel
theorem dX1_colourOf_17 : decode cX1_colourOf 17 = .ok (.ireturn, 1) := by decide +kernel
theorem dX1_paints_0 : decode cX1_paints 0 = .ok (.aload_n 0, 1) := by decide +kernel
theorem dX1_paints_1 : decode cX1_paints 1 = .ok (.getfield 16, 3) := by decide +kernel
theorem dX1_paints_4 : decode cX1_paints 4 = .ok (.bipush 24, 2) := by decide +kernel
theorem dX1_paints_6 : decode cX1_paints 6 = .ok (.aload_n 0, 1) := by decide +kernel
theorem dX1_paints_7 : decode cX1_paints 7 = .ok (.getfield 43, 3) := by decide +kernel
theorem dX1_paints_10 : decode cX1_paints 10 = .ok (.bipush 17, 2) := by decide +kernel
theorem dX1_paints_12 : decode cX1_paints 12 = .ok (.irem, 1) := by decide +kernel
theorem dX1_paints_13 : decode cX1_paints 13 = .ok (.imul, 1) := by decide +kernel
theorem dX1_paints_14 : decode cX1_paints 14 = .ok (.iload_n 1, 1) := by decide +kernel
theorem dX1_paints_15 : decode cX1_paints 15 = .ok (.iadd, 1) := by decide +kernel
theorem dX1_paints_16 : decode cX1_paints 16 = .ok (.iload_n 2, 1) := by decide +kernel
theorem dX1_paints_17 : decode cX1_paints 17 = .ok (.iastore, 1) := by decide +kernel
theorem dX1_paints_18 : decode cX1_paints 18 = .ok (.return_, 1) := by decide +kernel
theorem dX1_startsCount_0 : decode cX1_startsCount 0 = .ok (.iconst 0, 1) := by decide +kernel
theorem dX1_startsCount_1 : decode cX1_startsCount 1 = .ok (.istore_n 1, 1) := by decide +kernel
theorem dX1_startsCount_2 : decode cX1_startsCount 2 = .ok (.iload_n 1, 1) := by decide +kernel
theorem dX1_startsCount_3 : decode cX1_startsCount 3 = .ok (.bipush 24, 2) := by decide +kernel
theorem dX1_startsCount_5 : decode cX1_startsCount 5 = .ok (.if_icmp .ge 20, 3) := by decide +kernel
theorem dX1_startsCount_8 : decode cX1_startsCount 8 = .ok (.aload_n 0, 1) := by decide +kernel
theorem dX1_startsCount_9 : decode cX1_startsCount 9 = .ok (.getfield 16, 3) := by decide +kernel
theorem dX1_startsCount_12 : decode cX1_startsCount 12 = .ok (.iload_n 1, 1) := by decide +kernel
theorem dX1_startsCount_13 : decode cX1_startsCount 13 = .ok (.aload_n 0, 1) := by decide +kernel
theorem dX1_startsCount_14 : decode cX1_startsCount 14 = .ok (.iload_n 1, 1) := by decide +kernel
theorem dX1_startsCount_15 : decode cX1_startsCount 15 = .ok (.invokevirtual 46, 3) := by decide +kernel
theorem dX1_startsCount_18 : decode cX1_startsCount 18 = .ok (.iastore, 1) := by decide +kernel
theorem dX1_startsCount_19 : decode cX1_startsCount 19 = .ok (.iinc 1 1, 3) := by decide +kernel
theorem dX1_startsCount_22 : decode cX1_startsCount 22 = .ok (.goto (-20), 3) := by decide +kernel
theorem dX1_startsCount_25 : decode cX1_startsCount 25 = .ok (.aload_n 0, 1) := by decide +kernel
theorem dX1_startsCount_26 : decode cX1_startsCount 26 = .ok (.iconst 0, 1) := by decide +kernel
theorem dX1_startsCount_27 : decode cX1_startsCount 27 = .ok (.putfield 43, 3) := by decide +kernel
theorem dX1_startsCount_30 : decode cX1_startsCount 30 = .ok (.return_, 1) := by decide +kernel
theorem dX1_addNode_0 : decode cX1_addNode 0 = .ok (.iload_n 1, 1) := by decide +kernel
theorem dX1_addNode_1 : decode cX1_addNode 1 = .ok (.iconst 0, 1) := by decide +kernel
theorem dX1_addNode_2 : decode cX1_addNode 2 = .ok (.ldc 50, 2) := by decide +kernel
theorem dX1_addNode_4 : decode cX1_addNode 4 = .ok (.invokestatic 39, 3) := by decide +kernel
theorem dX1_addNode_7 : decode cX1_addNode 7 = .ok (.ifCond .ne 6, 3) := by decide +kernel
theorem dX1_addNode_10 : decode cX1_addNode 10 = .ok (.bipush (-2), 2) := by decide +kernel
theorem dX1_addNode_12 : decode cX1_addNode 12 = .ok (.ireturn, 1) := by decide +kernel
theorem dX1_addNode_13 : decode cX1_addNode 13 = .ok (.iconst 0, 1) := by decide +kernel
theorem dX1_addNode_14 : decode cX1_addNode 14 = .ok (.istore_n 2, 1) := by decide +kernel
theorem dX1_addNode_15 : decode cX1_addNode 15 = .ok (.iload_n 2, 1) := by decide +kernel
theorem dX1_addNode_16 : decode cX1_addNode 16 = .ok (.aload_n 0, 1) := by decide +kernel
theorem dX1_addNode_17 : decode cX1_addNode 17 = .ok (.getfield 35, 3) := by decide +kernel
theorem dX1_addNode_20 : decode cX1_addNode 20 = .ok (.if_icmp .ge 22, 3) := by decide +kernel
theorem dX1_addNode_23 : decode cX1_addNode 23 = .ok (.aload_n 0, 1) := by decide +kernel
theorem dX1_addNode_24 : decode cX1_addNode 24 = .ok (.getfield 7, 3) := by decide +kernel
theorem dX1_addNode_27 : decode cX1_addNode 27 = .ok (.iload_n 2, 1) := by decide +kernel
theorem dX1_addNode_28 : decode cX1_addNode 28 = .ok (.iaload, 1) := by decide +kernel
theorem dX1_addNode_29 : decode cX1_addNode 29 = .ok (.iload_n 1, 1) := by decide +kernel
theorem dX1_addNode_30 : decode cX1_addNode 30 = .ok (.if_icmp .ne 6, 3) := by decide +kernel
theorem dX1_addNode_33 : decode cX1_addNode 33 = .ok (.bipush (-3), 2) := by decide +kernel
theorem dX1_addNode_35 : decode cX1_addNode 35 = .ok (.ireturn, 1) := by decide +kernel
theorem dX1_addNode_36 : decode cX1_addNode 36 = .ok (.iinc 2 1, 3) := by decide +kernel
theorem dX1_addNode_39 : decode cX1_addNode 39 = .ok (.goto (-24), 3) := by decide +kernel
theorem dX1_addNode_42 : decode cX1_addNode 42 = .ok (.aload_n 0, 1) := by decide +kernel
theorem dX1_addNode_43 : decode cX1_addNode 43 = .ok (.getfield 35, 3) := by decide +kernel
theorem dX1_addNode_46 : decode cX1_addNode 46 = .ok (.bipush 24, 2) := by decide +kernel
theorem dX1_addNode_48 : decode cX1_addNode 48 = .ok (.if_icmp .ne 6, 3) := by decide +kernel
theorem dX1_addNode_51 : decode cX1_addNode 51 = .ok (.bipush (-4), 2) := by decide +kernel
theorem dX1_addNode_53 : decode cX1_addNode 53 = .ok (.ireturn, 1) := by decide +kernel
theorem dX1_addNode_54 : decode cX1_addNode 54 = .ok (.aload_n 0, 1) := by decide +kernel
theorem dX1_addNode_55 : decode cX1_addNode 55 = .ok (.invokevirtual 51, 3) := by decide +kernel
theorem dX1_addNode_58 : decode cX1_addNode 58 = .ok (.aload_n 0, 1) := by decide +kernel
theorem dX1_addNode_59 : decode cX1_addNode 59 = .ok (.getfield 7, 3) := by decide +kernel
theorem dX1_addNode_62 : decode cX1_addNode 62 = .ok (.aload_n 0, 1) := by decide +kernel
theorem dX1_addNode_63 : decode cX1_addNode 63 = .ok (.getfield 35, 3) := by decide +kernel
theorem dX1_addNode_66 : decode cX1_addNode 66 = .ok (.iload_n 1, 1) := by decide +kernel
theorem dX1_addNode_67 : decode cX1_addNode 67 = .ok (.iastore, 1) := by decide +kernel
theorem dX1_addNode_68 : decode cX1_addNode 68 = .ok (.aload_n 0, 1) := by decide +kernel
theorem dX1_addNode_69 : decode cX1_addNode 69 = .ok (.getfield 13, 3) := by decide +kernel
theorem dX1_addNode_72 : decode cX1_addNode 72 = .ok (.aload_n 0, 1) := by decide +kernel
theorem dX1_addNode_73 : decode cX1_addNode 73 = .ok (.getfield 35, 3) := by decide +kernel
theorem dX1_addNode_76 : decode cX1_addNode 76 = .ok (.bipush (-7), 2) := by decide +kernel
theorem dX1_addNode_78 : decode cX1_addNode 78 = .ok (.iastore, 1) := by decide +kernel
theorem dX1_addNode_79 : decode cX1_addNode 79 = .ok (.aload_n 0, 1) := by decide +kernel
theorem dX1_addNode_80 : decode cX1_addNode 80 = .ok (.aload_n 0, 1) := by decide +kernel
theorem dX1_addNode_81 : decode cX1_addNode 81 = .ok (.getfield 35, 3) := by decide +kernel
theorem dX1_addNode_84 : decode cX1_addNode 84 = .ok (.iload_n 1, 1) := by decide +kernel
theorem dX1_addNode_85 : decode cX1_addNode 85 = .ok (.invokevirtual 54, 3) := by decide +kernel
theorem dX1_addNode_88 : decode cX1_addNode 88 = .ok (.aload_n 0, 1) := by decide +kernel
theorem dX1_addNode_89 : decode cX1_addNode 89 = .ok (.dup, 1) := by decide +kernel
theorem dX1_addNode_90 : decode cX1_addNode 90 = .ok (.getfield 35, 3) := by decide +kernel
theorem dX1_addNode_93 : decode cX1_addNode 93 = .ok (.iconst 1, 1) := by decide +kernel
theorem dX1_addNode_94 : decode cX1_addNode 94 = .ok (.iadd, 1) := by decide +kernel
theorem dX1_addNode_95 : decode cX1_addNode 95 = .ok (.putfield 35, 3) := by decide +kernel
theorem dX1_addNode_98 : decode cX1_addNode 98 = .ok (.aload_n 0, 1) := by decide +kernel
theorem dX1_addNode_99 : decode cX1_addNode 99 = .ok (.getfield 35, 3) := by decide +kernel
theorem dX1_addNode_102 : decode cX1_addNode 102 = .ok (.iconst 1, 1) := by decide +kernel
theorem dX1_addNode_103 : decode cX1_addNode 103 = .ok (.isub, 1) := by decide +kernel
theorem dX1_addNode_104 : decode cX1_addNode 104 = .ok (.ireturn, 1) := by decide +kernel
theorem dX1_changesParent_0 : decode cX1_changesParent 0 = .ok (.aload_n 0, 1) := by decide +kernel
theorem dX1_changesParent_1 : decode cX1_changesParent 1 = .ok (.getfield 13, 3) := by decide +kernel
theorem dX1_changesParent_4 : decode cX1_changesParent 4 = .ok (.iload_n 1, 1) := by decide +kernel
theorem dX1_changesParent_5 : decode cX1_changesParent 5 = .ok (.iaload, 1) := by decide +kernel
theorem dX1_changesParent_6 : decode cX1_changesParent 6 = .ok (.istore_n 3, 1) := by decide +kernel
theorem dX1_changesParent_7 : decode cX1_changesParent 7 = .ok (.aload_n 0, 1) := by decide +kernel
theorem dX1_changesParent_8 : decode cX1_changesParent 8 = .ok (.invokevirtual 51, 3) := by decide +kernel
theorem dX1_changesParent_11 : decode cX1_changesParent 11 = .ok (.aload_n 0, 1) := by decide +kernel
theorem dX1_changesParent_12 : decode cX1_changesParent 12 = .ok (.getfield 13, 3) := by decide +kernel
theorem dX1_changesParent_15 : decode cX1_changesParent 15 = .ok (.iload_n 1, 1) := by decide +kernel
theorem dX1_changesParent_16 : decode cX1_changesParent 16 = .ok (.iload_n 2, 1) := by decide +kernel
theorem dX1_changesParent_17 : decode cX1_changesParent 17 = .ok (.iastore, 1) := by decide +kernel
theorem dX1_changesParent_18 : decode cX1_changesParent 18 = .ok (.iload_n 3, 1) := by decide +kernel
theorem dX1_changesParent_19 : decode cX1_changesParent 19 = .ok (.ireturn, 1) := by decide +kernel
theorem dX1_setParent_0 : decode cX1_setParent 0 = .ok (.aload_n 0, 1) := by decide +kernel
theorem dX1_setParent_1 : decode cX1_setParent 1 = .ok (.iload_n 1, 1) := by decide +kernel
theorem dX1_setParent_2 : decode cX1_setParent 2 = .ok (.invokevirtual 58, 3) := by decide +kernel
theorem dX1_setParent_5 : decode cX1_setParent 5 = .ok (.ifCond .eq 11, 3) := by decide +kernel
theorem dX1_setParent_8 : decode cX1_setParent 8 = .ok (.aload_n 0, 1) := by decide +kernel
theorem dX1_setParent_9 : decode cX1_setParent 9 = .ok (.iload_n 2, 1) := by decide +kernel
theorem dX1_setParent_10 : decode cX1_setParent 10 = .ok (.invokevirtual 58, 3) := by decide +kernel
theorem dX1_setParent_13 : decode cX1_setParent 13 = .ok (.ifCond .ne 5, 3) := by decide +kernel
theorem dX1_setParent_16 : decode cX1_setParent 16 = .ok (.iconst (-1), 1) := by decide +kernel
theorem dX1_setParent_17 : decode cX1_setParent 17 = .ok (.ireturn, 1) := by decide +kernel
theorem dX1_setParent_18 : decode cX1_setParent 18 = .ok (.iload_n 1, 1) := by decide +kernel
theorem dX1_setParent_19 : decode cX1_setParent 19 = .ok (.iload_n 2, 1) := by decide +kernel
theorem dX1_setParent_20 : decode cX1_setParent 20 = .ok (.if_icmp .ne 8, 3) := by decide +kernel
theorem dX1_setParent_23 : decode cX1_setParent 23 = .ok (.bipush (-2), 2) := by decide +kernel
theorem dX1_setParent_25 : decode cX1_setParent 25 = .ok (.goto 9, 3) := by decide +kernel
theorem dX1_setParent_28 : decode cX1_setParent 28 = .ok (.aload_n 0, 1) := by decide +kernel
theorem dX1_setParent_29 : decode cX1_setParent 29 = .ok (.iload_n 1, 1) := by decide +kernel
theorem dX1_setParent_30 : decode cX1_setParent 30 = .ok (.iload_n 2, 1) := by decide +kernel
theorem dX1_setParent_31 : decode cX1_setParent 31 = .ok (.invokevirtual 62, 3) := by decide +kernel
theorem dX1_setParent_34 : decode cX1_setParent 34 = .ok (.ireturn, 1) := by decide +kernel
theorem dX1_removeParent_0 : decode cX1_removeParent 0 = .ok (.aload_n 0, 1) := by decide +kernel
theorem dX1_removeParent_1 : decode cX1_removeParent 1 = .ok (.iload_n 1, 1) := by decide +kernel
theorem dX1_removeParent_2 : decode cX1_removeParent 2 = .ok (.invokevirtual 58, 3) := by decide +kernel
theorem dX1_removeParent_5 : decode cX1_removeParent 5 = .ok (.ifCond .eq 13, 3) := by decide +kernel
theorem dX1_removeParent_8 : decode cX1_removeParent 8 = .ok (.aload_n 0, 1) := by decide +kernel
theorem dX1_removeParent_9 : decode cX1_removeParent 9 = .ok (.iload_n 1, 1) := by decide +kernel
theorem dX1_removeParent_10 : decode cX1_removeParent 10 = .ok (.bipush (-7), 2) := by decide +kernel
theorem dX1_removeParent_12 : decode cX1_removeParent 12 = .ok (.invokevirtual 62, 3) := by decide +kernel
theorem dX1_removeParent_15 : decode cX1_removeParent 15 = .ok (.goto 4, 3) := by decide +kernel
theorem dX1_removeParent_18 : decode cX1_removeParent 18 = .ok (.iconst (-1), 1) := by decide +kernel
theorem dX1_removeParent_19 : decode cX1_removeParent 19 = .ok (.ireturn, 1) := by decide +kernel
theorem dX1_parent_0 : decode cX1_parent 0 = .ok (.aload_n 0, 1) := by decide +kernel
theorem dX1_parent_1 : decode cX1_parent 1 = .ok (.iload_n 1, 1) := by decide +kernel
theorem dX1_parent_2 : decode cX1_parent 2 = .ok (.invokevirtual 58, 3) := by decide +kernel
theorem dX1_parent_5 : decode cX1_parent 5 = .ok (.ifCond .eq 12, 3) := by decide +kernel
theorem dX1_parent_8 : decode cX1_parent 8 = .ok (.aload_n 0, 1) := by decide +kernel
theorem dX1_parent_9 : decode cX1_parent 9 = .ok (.getfield 13, 3) := by decide +kernel
theorem dX1_parent_12 : decode cX1_parent 12 = .ok (.iload_n 1, 1) := by decide +kernel
theorem dX1_parent_13 : decode cX1_parent 13 = .ok (.iaload, 1) := by decide +kernel
theorem dX1_parent_14 : decode cX1_parent 14 = .ok (.goto 4, 3) := by decide +kernel
theorem dX1_parent_17 : decode cX1_parent 17 = .ok (.iconst (-1), 1) := by decide +kernel
theorem dX1_parent_18 : decode cX1_parent 18 = .ok (.ireturn, 1) := by decide +kernel
theorem dX1_areNeighbours_0 : decode cX1_areNeighbours 0 = .ok (.iload_n 1, 1) := by decide +kernel
theorem dX1_areNeighbours_1 : decode cX1_areNeighbours 1 = .ok (.iload_n 2, 1) := by decide +kernel
theorem dX1_areNeighbours_2 : decode cX1_areNeighbours 2 = .ok (.if_icmp .eq 27, 3) := by decide +kernel
theorem dX1_areNeighbours_5 : decode cX1_areNeighbours 5 = .ok (.aload_n 0, 1) := by decide +kernel
theorem dX1_areNeighbours_6 : decode cX1_areNeighbours 6 = .ok (.getfield 13, 3) := by decide +kernel
theorem dX1_areNeighbours_9 : decode cX1_areNeighbours 9 = .ok (.iload_n 1, 1) := by decide +kernel
theorem dX1_areNeighbours_10 : decode cX1_areNeighbours 10 = .ok (.iaload, 1) := by decide +kernel
theorem dX1_areNeighbours_11 : decode cX1_areNeighbours 11 = .ok (.iload_n 2, 1) := by decide +kernel
theorem dX1_areNeighbours_12 : decode cX1_areNeighbours 12 = .ok (.if_icmp .eq 13, 3) := by decide +kernel
theorem dX1_areNeighbours_15 : decode cX1_areNeighbours 15 = .ok (.aload_n 0, 1) := by decide +kernel
theorem dX1_areNeighbours_16 : decode cX1_areNeighbours 16 = .ok (.getfield 13, 3) := by decide +kernel
theorem dX1_areNeighbours_19 : decode cX1_areNeighbours 19 = .ok (.iload_n 2, 1) := by decide +kernel
theorem dX1_areNeighbours_20 : decode cX1_areNeighbours 20 = .ok (.iaload, 1) := by decide +kernel
theorem dX1_areNeighbours_21 : decode cX1_areNeighbours 21 = .ok (.iload_n 1, 1) := by decide +kernel
theorem dX1_areNeighbours_22 : decode cX1_areNeighbours 22 = .ok (.if_icmp .ne 7, 3) := by decide +kernel
theorem dX1_areNeighbours_25 : decode cX1_areNeighbours 25 = .ok (.iconst 1, 1) := by decide +kernel
theorem dX1_areNeighbours_26 : decode cX1_areNeighbours 26 = .ok (.goto 4, 3) := by decide +kernel
theorem dX1_areNeighbours_29 : decode cX1_areNeighbours 29 = .ok (.iconst 0, 1) := by decide +kernel
theorem dX1_areNeighbours_30 : decode cX1_areNeighbours 30 = .ok (.ireturn, 1) := by decide +kernel
theorem dX1_degree_0 : decode cX1_degree 0 = .ok (.aload_n 0, 1) := by decide +kernel
theorem dX1_degree_1 : decode cX1_degree 1 = .ok (.iload_n 1, 1) := by decide +kernel
theorem dX1_degree_2 : decode cX1_degree 2 = .ok (.invokevirtual 58, 3) := by decide +kernel
theorem dX1_degree_5 : decode cX1_degree 5 = .ok (.ifCond .ne 5, 3) := by decide +kernel
theorem dX1_degree_8 : decode cX1_degree 8 = .ok (.iconst (-1), 1) := by decide +kernel
theorem dX1_degree_9 : decode cX1_degree 9 = .ok (.ireturn, 1) := by decide +kernel
theorem dX1_degree_10 : decode cX1_degree 10 = .ok (.iconst 0, 1) := by decide +kernel
theorem dX1_degree_11 : decode cX1_degree 11 = .ok (.istore_n 2, 1) := by decide +kernel
theorem dX1_degree_12 : decode cX1_degree 12 = .ok (.iconst 0, 1) := by decide +kernel
theorem dX1_degree_13 : decode cX1_degree 13 = .ok (.istore_n 3, 1) := by decide +kernel
theorem dX1_degree_14 : decode cX1_degree 14 = .ok (.iload_n 3, 1) := by decide +kernel
theorem dX1_degree_15 : decode cX1_degree 15 = .ok (.aload_n 0, 1) := by decide +kernel
theorem dX1_degree_16 : decode cX1_degree 16 = .ok (.getfield 35, 3) := by decide +kernel
theorem dX1_degree_19 : decode cX1_degree 19 = .ok (.if_icmp .ge 26, 3) := by decide +kernel
theorem dX1_degree_22 : decode cX1_degree 22 = .ok (.iload_n 2, 1) := by decide +kernel
theorem dX1_degree_23 : decode cX1_degree 23 = .ok (.aload_n 0, 1) := by decide +kernel
theorem dX1_degree_24 : decode cX1_degree 24 = .ok (.iload_n 1, 1) := by decide +kernel
theorem dX1_degree_25 : decode cX1_degree 25 = .ok (.iload_n 3, 1) := by decide +kernel
theorem dX1_degree_26 : decode cX1_degree 26 = .ok (.invokevirtual 66, 3) := by decide +kernel
theorem dX1_degree_29 : decode cX1_degree 29 = .ok (.ifCond .eq 7, 3) := by decide +kernel
theorem dX1_degree_32 : decode cX1_degree 32 = .ok (.iconst 1, 1) := by decide +kernel
theorem dX1_degree_33 : decode cX1_degree 33 = .ok (.goto 4, 3) := by decide +kernel
theorem dX1_degree_36 : decode cX1_degree 36 = .ok (.iconst 0, 1) := by decide +kernel
theorem dX1_degree_37 : decode cX1_degree 37 = .ok (.iadd, 1) := by decide +kernel
theorem dX1_degree_38 : decode cX1_degree 38 = .ok (.istore_n 2, 1) := by decide +kernel
theorem dX1_degree_39 : decode cX1_degree 39 = .ok (.iinc 3 1, 3) := by decide +kernel
theorem dX1_degree_42 : decode cX1_degree 42 = .ok (.goto (-28), 3) := by decide +kernel
theorem dX1_degree_45 : decode cX1_degree 45 = .ok (.iload_n 2, 1) := by decide +kernel
theorem dX1_degree_46 : decode cX1_degree 46 = .ok (.ireturn, 1) := by decide +kernel
theorem dX1_stepsFrom_0 : decode cX1_stepsFrom 0 = .ok (.iconst 0, 1) := by decide +kernel
theorem dX1_stepsFrom_1 : decode cX1_stepsFrom 1 = .ok (.istore_n 2, 1) := by decide +kernel
theorem dX1_stepsFrom_2 : decode cX1_stepsFrom 2 = .ok (.iload_n 1, 1) := by decide +kernel
theorem dX1_stepsFrom_3 : decode cX1_stepsFrom 3 = .ok (.istore_n 3, 1) := by decide +kernel
theorem dX1_stepsFrom_4 : decode cX1_stepsFrom 4 = .ok (.aload_n 0, 1) := by decide +kernel
theorem dX1_stepsFrom_5 : decode cX1_stepsFrom 5 = .ok (.getfield 13, 3) := by decide +kernel
theorem dX1_stepsFrom_8 : decode cX1_stepsFrom 8 = .ok (.iload_n 3, 1) := by decide +kernel
theorem dX1_stepsFrom_9 : decode cX1_stepsFrom 9 = .ok (.iaload, 1) := by decide +kernel
theorem dX1_stepsFrom_10 : decode cX1_stepsFrom 10 = .ok (.bipush (-7), 2) := by decide +kernel
theorem dX1_stepsFrom_12 : decode cX1_stepsFrom 12 = .ok (.if_icmp .eq 24, 3) := by decide +kernel
theorem dX1_stepsFrom_15 : decode cX1_stepsFrom 15 = .ok (.iload_n 2, 1) := by decide +kernel
theorem dX1_stepsFrom_16 : decode cX1_stepsFrom 16 = .ok (.aload_n 0, 1) := by decide +kernel
theorem dX1_stepsFrom_17 : decode cX1_stepsFrom 17 = .ok (.getfield 35, 3) := by decide +kernel
theorem dX1_stepsFrom_20 : decode cX1_stepsFrom 20 = .ok (.if_icmp .gt 16, 3) := by decide +kernel
theorem dX1_stepsFrom_23 : decode cX1_stepsFrom 23 = .ok (.aload_n 0, 1) := by decide +kernel
theorem dX1_stepsFrom_24 : decode cX1_stepsFrom 24 = .ok (.getfield 13, 3) := by decide +kernel
theorem dX1_stepsFrom_27 : decode cX1_stepsFrom 27 = .ok (.iload_n 3, 1) := by decide +kernel
theorem dX1_stepsFrom_28 : decode cX1_stepsFrom 28 = .ok (.iaload, 1) := by decide +kernel
theorem dX1_stepsFrom_29 : decode cX1_stepsFrom 29 = .ok (.istore_n 3, 1) := by decide +kernel
theorem dX1_stepsFrom_30 : decode cX1_stepsFrom 30 = .ok (.iinc 2 1, 3) := by decide +kernel
theorem dX1_stepsFrom_33 : decode cX1_stepsFrom 33 = .ok (.goto (-29), 3) := by decide +kernel
theorem dX1_stepsFrom_36 : decode cX1_stepsFrom 36 = .ok (.iload_n 2, 1) := by decide +kernel
theorem dX1_stepsFrom_37 : decode cX1_stepsFrom 37 = .ok (.aload_n 0, 1) := by decide +kernel
theorem dX1_stepsFrom_38 : decode cX1_stepsFrom 38 = .ok (.getfield 35, 3) := by decide +kernel
theorem dX1_stepsFrom_41 : decode cX1_stepsFrom 41 = .ok (.if_icmp .le 8, 3) := by decide +kernel
theorem dX1_stepsFrom_44 : decode cX1_stepsFrom 44 = .ok (.bipush (-7), 2) := by decide +kernel
theorem dX1_stepsFrom_46 : decode cX1_stepsFrom 46 = .ok (.goto 4, 3) := by decide +kernel
theorem dX1_stepsFrom_49 : decode cX1_stepsFrom 49 = .ok (.iload_n 2, 1) := by decide +kernel
theorem dX1_stepsFrom_50 : decode cX1_stepsFrom 50 = .ok (.ireturn, 1) := by decide +kernel
theorem dX1_depth_0 : decode cX1_depth 0 = .ok (.aload_n 0, 1) := by decide +kernel
theorem dX1_depth_1 : decode cX1_depth 1 = .ok (.iload_n 1, 1) := by decide +kernel
theorem dX1_depth_2 : decode cX1_depth 2 = .ok (.invokevirtual 58, 3) := by decide +kernel
theorem dX1_depth_5 : decode cX1_depth 5 = .ok (.ifCond .eq 11, 3) := by decide +kernel
theorem dX1_depth_8 : decode cX1_depth 8 = .ok (.aload_n 0, 1) := by decide +kernel
theorem dX1_depth_9 : decode cX1_depth 9 = .ok (.iload_n 1, 1) := by decide +kernel
theorem dX1_depth_10 : decode cX1_depth 10 = .ok (.invokevirtual 70, 3) := by decide +kernel
theorem dX1_depth_13 : decode cX1_depth 13 = .ok (.goto 4, 3) := by decide +kernel
theorem dX1_depth_16 : decode cX1_depth 16 = .ok (.iconst (-1), 1) := by decide +kernel
theorem dX1_depth_17 : decode cX1_depth 17 = .ok (.ireturn, 1) := by decide +kernel
theorem dX1_cycleOf_0 : decode cX1_cycleOf 0 = .ok (.aload_n 0, 1) := by decide +kernel
theorem dX1_cycleOf_1 : decode cX1_cycleOf 1 = .ok (.getfield 13, 3) := by decide +kernel
theorem dX1_cycleOf_4 : decode cX1_cycleOf 4 = .ok (.iload_n 1, 1) := by decide +kernel
theorem dX1_cycleOf_5 : decode cX1_cycleOf 5 = .ok (.iaload, 1) := by decide +kernel
theorem dX1_cycleOf_6 : decode cX1_cycleOf 6 = .ok (.istore_n 2, 1) := by decide +kernel
theorem dX1_cycleOf_7 : decode cX1_cycleOf 7 = .ok (.iconst 1, 1) := by decide +kernel
theorem dX1_cycleOf_8 : decode cX1_cycleOf 8 = .ok (.istore_n 3, 1) := by decide +kernel
theorem dX1_cycleOf_9 : decode cX1_cycleOf 9 = .ok (.iload_n 3, 1) := by decide +kernel
theorem dX1_cycleOf_10 : decode cX1_cycleOf 10 = .ok (.aload_n 0, 1) := by decide +kernel
theorem dX1_cycleOf_11 : decode cX1_cycleOf 11 = .ok (.getfield 35, 3) := by decide +kernel
theorem dX1_cycleOf_14 : decode cX1_cycleOf 14 = .ok (.if_icmp .gt 29, 3) := by decide +kernel
theorem dX1_cycleOf_17 : decode cX1_cycleOf 17 = .ok (.iload_n 2, 1) := by decide +kernel
theorem dX1_cycleOf_18 : decode cX1_cycleOf 18 = .ok (.bipush (-7), 2) := by decide +kernel
theorem dX1_cycleOf_20 : decode cX1_cycleOf 20 = .ok (.if_icmp .eq 23, 3) := by decide +kernel
theorem dX1_cycleOf_23 : decode cX1_cycleOf 23 = .ok (.iload_n 2, 1) := by decide +kernel
theorem dX1_cycleOf_24 : decode cX1_cycleOf 24 = .ok (.iload_n 1, 1) := by decide +kernel
theorem dX1_cycleOf_25 : decode cX1_cycleOf 25 = .ok (.if_icmp .ne 5, 3) := by decide +kernel
theorem dX1_cycleOf_28 : decode cX1_cycleOf 28 = .ok (.iload_n 3, 1) := by decide +kernel
theorem dX1_cycleOf_29 : decode cX1_cycleOf 29 = .ok (.ireturn, 1) := by decide +kernel
theorem dX1_cycleOf_30 : decode cX1_cycleOf 30 = .ok (.aload_n 0, 1) := by decide +kernel
theorem dX1_cycleOf_31 : decode cX1_cycleOf 31 = .ok (.getfield 13, 3) := by decide +kernel
theorem dX1_cycleOf_34 : decode cX1_cycleOf 34 = .ok (.iload_n 2, 1) := by decide +kernel
theorem dX1_cycleOf_35 : decode cX1_cycleOf 35 = .ok (.iaload, 1) := by decide +kernel
theorem dX1_cycleOf_36 : decode cX1_cycleOf 36 = .ok (.istore_n 2, 1) := by decide +kernel
theorem dX1_cycleOf_37 : decode cX1_cycleOf 37 = .ok (.iinc 3 1, 3) := by decide +kernel
theorem dX1_cycleOf_40 : decode cX1_cycleOf 40 = .ok (.goto (-31), 3) := by decide +kernel
theorem dX1_cycleOf_43 : decode cX1_cycleOf 43 = .ok (.bipush (-7), 2) := by decide +kernel
theorem dX1_cycleOf_45 : decode cX1_cycleOf 45 = .ok (.ireturn, 1) := by decide +kernel
theorem dX1_cycleLength_0 : decode cX1_cycleLength 0 = .ok (.aload_n 0, 1) := by decide +kernel
theorem dX1_cycleLength_1 : decode cX1_cycleLength 1 = .ok (.iload_n 1, 1) := by decide +kernel
theorem dX1_cycleLength_2 : decode cX1_cycleLength 2 = .ok (.invokevirtual 58, 3) := by decide +kernel
theorem dX1_cycleLength_5 : decode cX1_cycleLength 5 = .ok (.ifCond .eq 11, 3) := by decide +kernel
theorem dX1_cycleLength_8 : decode cX1_cycleLength 8 = .ok (.aload_n 0, 1) := by decide +kernel
theorem dX1_cycleLength_9 : decode cX1_cycleLength 9 = .ok (.iload_n 1, 1) := by decide +kernel
theorem dX1_cycleLength_10 : decode cX1_cycleLength 10 = .ok (.invokevirtual 73, 3) := by decide +kernel
theorem dX1_cycleLength_13 : decode cX1_cycleLength 13 = .ok (.goto 4, 3) := by decide +kernel
theorem dX1_cycleLength_16 : decode cX1_cycleLength 16 = .ok (.iconst (-1), 1) := by decide +kernel
theorem dX1_cycleLength_17 : decode cX1_cycleLength 17 = .ok (.ireturn, 1) := by decide +kernel
theorem dX1_headOf_0 : decode cX1_headOf 0 = .ok (.iload_n 1, 1) := by decide +kernel
theorem dX1_headOf_1 : decode cX1_headOf 1 = .ok (.istore_n 2, 1) := by decide +kernel
theorem dX1_headOf_2 : decode cX1_headOf 2 = .ok (.iconst 0, 1) := by decide +kernel
theorem dX1_headOf_3 : decode cX1_headOf 3 = .ok (.istore_n 3, 1) := by decide +kernel
theorem dX1_headOf_4 : decode cX1_headOf 4 = .ok (.iload_n 3, 1) := by decide +kernel
theorem dX1_headOf_5 : decode cX1_headOf 5 = .ok (.aload_n 0, 1) := by decide +kernel
theorem dX1_headOf_6 : decode cX1_headOf 6 = .ok (.getfield 35, 3) := by decide +kernel
theorem dX1_headOf_9 : decode cX1_headOf 9 = .ok (.if_icmp .ge 27, 3) := by decide +kernel
theorem dX1_headOf_12 : decode cX1_headOf 12 = .ok (.aload_n 0, 1) := by decide +kernel
theorem dX1_headOf_13 : decode cX1_headOf 13 = .ok (.getfield 13, 3) := by decide +kernel
theorem dX1_headOf_16 : decode cX1_headOf 16 = .ok (.iload_n 2, 1) := by decide +kernel
theorem dX1_headOf_17 : decode cX1_headOf 17 = .ok (.iaload, 1) := by decide +kernel
theorem dX1_headOf_18 : decode cX1_headOf 18 = .ok (.bipush (-7), 2) := by decide +kernel
theorem dX1_headOf_20 : decode cX1_headOf 20 = .ok (.if_icmp .eq 16, 3) := by decide +kernel
theorem dX1_headOf_23 : decode cX1_headOf 23 = .ok (.aload_n 0, 1) := by decide +kernel
theorem dX1_headOf_24 : decode cX1_headOf 24 = .ok (.getfield 13, 3) := by decide +kernel
theorem dX1_headOf_27 : decode cX1_headOf 27 = .ok (.iload_n 2, 1) := by decide +kernel
theorem dX1_headOf_28 : decode cX1_headOf 28 = .ok (.iaload, 1) := by decide +kernel
theorem dX1_headOf_29 : decode cX1_headOf 29 = .ok (.istore_n 2, 1) := by decide +kernel
theorem dX1_headOf_30 : decode cX1_headOf 30 = .ok (.iinc 3 1, 3) := by decide +kernel
theorem dX1_headOf_33 : decode cX1_headOf 33 = .ok (.goto (-29), 3) := by decide +kernel
theorem dX1_headOf_36 : decode cX1_headOf 36 = .ok (.aload_n 0, 1) := by decide +kernel
theorem dX1_headOf_37 : decode cX1_headOf 37 = .ok (.getfield 13, 3) := by decide +kernel
theorem dX1_headOf_40 : decode cX1_headOf 40 = .ok (.iload_n 2, 1) := by decide +kernel
theorem dX1_headOf_41 : decode cX1_headOf 41 = .ok (.iaload, 1) := by decide +kernel
theorem dX1_headOf_42 : decode cX1_headOf 42 = .ok (.bipush (-7), 2) := by decide +kernel
theorem dX1_headOf_44 : decode cX1_headOf 44 = .ok (.if_icmp .ne 5, 3) := by decide +kernel
theorem dX1_headOf_47 : decode cX1_headOf 47 = .ok (.iload_n 2, 1) := by decide +kernel
theorem dX1_headOf_48 : decode cX1_headOf 48 = .ok (.ireturn, 1) := by decide +kernel
theorem dX1_headOf_49 : decode cX1_headOf 49 = .ok (.iload_n 2, 1) := by decide +kernel
theorem dX1_headOf_50 : decode cX1_headOf 50 = .ok (.istore_n 3, 1) := by decide +kernel
theorem dX1_headOf_51 : decode cX1_headOf 51 = .ok (.aload_n 0, 1) := by decide +kernel
theorem dX1_headOf_52 : decode cX1_headOf 52 = .ok (.getfield 13, 3) := by decide +kernel
theorem dX1_headOf_55 : decode cX1_headOf 55 = .ok (.iload_n 2, 1) := by decide +kernel
theorem dX1_headOf_56 : decode cX1_headOf 56 = .ok (.iaload, 1) := by decide +kernel
theorem dX1_headOf_57 : decode cX1_headOf 57 = .ok (.istore 4, 2) := by decide +kernel
theorem dX1_headOf_59 : decode cX1_headOf 59 = .ok (.iload 4, 2) := by decide +kernel
theorem dX1_headOf_61 : decode cX1_headOf 61 = .ok (.iload_n 2, 1) := by decide +kernel
theorem dX1_headOf_62 : decode cX1_headOf 62 = .ok (.if_icmp .eq 28, 3) := by decide +kernel
theorem dX1_headOf_65 : decode cX1_headOf 65 = .ok (.iload 4, 2) := by decide +kernel
theorem dX1_headOf_67 : decode cX1_headOf 67 = .ok (.iload_n 3, 1) := by decide +kernel
theorem dX1_headOf_68 : decode cX1_headOf 68 = .ok (.if_icmp .ge 8, 3) := by decide +kernel
theorem dX1_headOf_71 : decode cX1_headOf 71 = .ok (.iload 4, 2) := by decide +kernel
theorem dX1_headOf_73 : decode cX1_headOf 73 = .ok (.goto 4, 3) := by decide +kernel
theorem dX1_headOf_76 : decode cX1_headOf 76 = .ok (.iload_n 3, 1) := by decide +kernel
theorem dX1_headOf_77 : decode cX1_headOf 77 = .ok (.istore_n 3, 1) := by decide +kernel
theorem dX1_headOf_78 : decode cX1_headOf 78 = .ok (.aload_n 0, 1) := by decide +kernel
theorem dX1_headOf_79 : decode cX1_headOf 79 = .ok (.getfield 13, 3) := by decide +kernel
theorem dX1_headOf_82 : decode cX1_headOf 82 = .ok (.iload 4, 2) := by decide +kernel
theorem dX1_headOf_84 : decode cX1_headOf 84 = .ok (.iaload, 1) := by decide +kernel
theorem dX1_headOf_85 : decode cX1_headOf 85 = .ok (.istore 4, 2) := by decide +kernel
theorem dX1_headOf_87 : decode cX1_headOf 87 = .ok (.goto (-28), 3) := by decide +kernel
theorem dX1_headOf_90 : decode cX1_headOf 90 = .ok (.iload_n 3, 1) := by decide +kernel
theorem dX1_headOf_91 : decode cX1_headOf 91 = .ok (.ireturn, 1) := by decide +kernel
theorem dX1_partCount_0 : decode cX1_partCount 0 = .ok (.iconst 0, 1) := by decide +kernel
theorem dX1_partCount_1 : decode cX1_partCount 1 = .ok (.istore_n 1, 1) := by decide +kernel
theorem dX1_partCount_2 : decode cX1_partCount 2 = .ok (.iconst 0, 1) := by decide +kernel
theorem dX1_partCount_3 : decode cX1_partCount 3 = .ok (.istore_n 2, 1) := by decide +kernel
theorem dX1_partCount_4 : decode cX1_partCount 4 = .ok (.iload_n 2, 1) := by decide +kernel
theorem dX1_partCount_5 : decode cX1_partCount 5 = .ok (.aload_n 0, 1) := by decide +kernel
theorem dX1_partCount_6 : decode cX1_partCount 6 = .ok (.getfield 35, 3) := by decide +kernel
theorem dX1_partCount_9 : decode cX1_partCount 9 = .ok (.if_icmp .ge 26, 3) := by decide +kernel
theorem dX1_partCount_12 : decode cX1_partCount 12 = .ok (.iload_n 1, 1) := by decide +kernel
theorem dX1_partCount_13 : decode cX1_partCount 13 = .ok (.aload_n 0, 1) := by decide +kernel
theorem dX1_partCount_14 : decode cX1_partCount 14 = .ok (.iload_n 2, 1) := by decide +kernel
theorem dX1_partCount_15 : decode cX1_partCount 15 = .ok (.invokevirtual 76, 3) := by decide +kernel
theorem dX1_partCount_18 : decode cX1_partCount 18 = .ok (.iload_n 2, 1) := by decide +kernel
theorem dX1_partCount_19 : decode cX1_partCount 19 = .ok (.if_icmp .ne 7, 3) := by decide +kernel
theorem dX1_partCount_22 : decode cX1_partCount 22 = .ok (.iconst 1, 1) := by decide +kernel
theorem dX1_partCount_23 : decode cX1_partCount 23 = .ok (.goto 4, 3) := by decide +kernel
theorem dX1_partCount_26 : decode cX1_partCount 26 = .ok (.iconst 0, 1) := by decide +kernel
theorem dX1_partCount_27 : decode cX1_partCount 27 = .ok (.iadd, 1) := by decide +kernel
theorem dX1_partCount_28 : decode cX1_partCount 28 = .ok (.istore_n 1, 1) := by decide +kernel
theorem dX1_partCount_29 : decode cX1_partCount 29 = .ok (.iinc 2 1, 3) := by decide +kernel
theorem dX1_partCount_32 : decode cX1_partCount 32 = .ok (.goto (-28), 3) := by decide +kernel
theorem dX1_partCount_35 : decode cX1_partCount 35 = .ok (.iload_n 1, 1) := by decide +kernel
theorem dX1_partCount_36 : decode cX1_partCount 36 = .ok (.ireturn, 1) := by decide +kernel
theorem dX1_colour_0 : decode cX1_colour 0 = .ok (.aload_n 0, 1) := by decide +kernel
theorem dX1_colour_1 : decode cX1_colour 1 = .ok (.iload_n 1, 1) := by decide +kernel
theorem dX1_colour_2 : decode cX1_colour 2 = .ok (.invokevirtual 58, 3) := by decide +kernel
theorem dX1_colour_5 : decode cX1_colour 5 = .ok (.ifCond .eq 11, 3) := by decide +kernel
theorem dX1_colour_8 : decode cX1_colour 8 = .ok (.aload_n 0, 1) := by decide +kernel
theorem dX1_colour_9 : decode cX1_colour 9 = .ok (.iload_n 1, 1) := by decide +kernel
theorem dX1_colour_10 : decode cX1_colour 10 = .ok (.invokevirtual 46, 3) := by decide +kernel
theorem dX1_colour_13 : decode cX1_colour 13 = .ok (.goto 4, 3) := by decide +kernel
theorem dX1_colour_16 : decode cX1_colour 16 = .ok (.iconst (-1), 1) := by decide +kernel
theorem dX1_colour_17 : decode cX1_colour 17 = .ok (.ireturn, 1) := by decide +kernel
theorem dX1_setColour_0 : decode cX1_setColour 0 = .ok (.aload_n 0, 1) := by decide +kernel
theorem dX1_setColour_1 : decode cX1_setColour 1 = .ok (.iload_n 1, 1) := by decide +kernel
theorem dX1_setColour_2 : decode cX1_setColour 2 = .ok (.invokevirtual 58, 3) := by decide +kernel
theorem dX1_setColour_5 : decode cX1_setColour 5 = .ok (.ifCond .ne 5, 3) := by decide +kernel
theorem dX1_setColour_8 : decode cX1_setColour 8 = .ok (.iconst (-1), 1) := by decide +kernel
theorem dX1_setColour_9 : decode cX1_setColour 9 = .ok (.ireturn, 1) := by decide +kernel
theorem dX1_setColour_10 : decode cX1_setColour 10 = .ok (.iload_n 2, 1) := by decide +kernel
theorem dX1_setColour_11 : decode cX1_setColour 11 = .ok (.iconst 0, 1) := by decide +kernel
theorem dX1_setColour_12 : decode cX1_setColour 12 = .ok (.ldc 50, 2) := by decide +kernel
theorem dX1_setColour_14 : decode cX1_setColour 14 = .ok (.invokestatic 39, 3) := by decide +kernel
theorem dX1_setColour_17 : decode cX1_setColour 17 = .ok (.ifCond .ne 6, 3) := by decide +kernel
theorem dX1_setColour_20 : decode cX1_setColour 20 = .ok (.bipush (-2), 2) := by decide +kernel
theorem dX1_setColour_22 : decode cX1_setColour 22 = .ok (.ireturn, 1) := by decide +kernel
theorem dX1_setColour_23 : decode cX1_setColour 23 = .ok (.aload_n 0, 1) := by decide +kernel
theorem dX1_setColour_24 : decode cX1_setColour 24 = .ok (.iload_n 1, 1) := by decide +kernel
theorem dX1_setColour_25 : decode cX1_setColour 25 = .ok (.invokevirtual 46, 3) := by decide +kernel
theorem dX1_setColour_28 : decode cX1_setColour 28 = .ok (.istore_n 3, 1) := by decide +kernel
theorem dX1_setColour_29 : decode cX1_setColour 29 = .ok (.aload_n 0, 1) := by decide +kernel
theorem dX1_setColour_30 : decode cX1_setColour 30 = .ok (.invokevirtual 51, 3) := by decide +kernel
theorem dX1_setColour_33 : decode cX1_setColour 33 = .ok (.aload_n 0, 1) := by decide +kernel
theorem dX1_setColour_34 : decode cX1_setColour 34 = .ok (.iload_n 1, 1) := by decide +kernel
theorem dX1_setColour_35 : decode cX1_setColour 35 = .ok (.iload_n 2, 1) := by decide +kernel
theorem dX1_setColour_36 : decode cX1_setColour 36 = .ok (.invokevirtual 54, 3) := by decide +kernel
theorem dX1_setColour_39 : decode cX1_setColour 39 = .ok (.iload_n 3, 1) := by decide +kernel
theorem dX1_setColour_40 : decode cX1_setColour 40 = .ok (.ireturn, 1) := by decide +kernel
theorem dX1_resetColours_0 : decode cX1_resetColours 0 = .ok (.iconst 0, 1) := by decide +kernel
theorem dX1_resetColours_1 : decode cX1_resetColours 1 = .ok (.istore_n 1, 1) := by decide +kernel
theorem dX1_resetColours_2 : decode cX1_resetColours 2 = .ok (.aload_n 0, 1) := by decide +kernel
theorem dX1_resetColours_3 : decode cX1_resetColours 3 = .ok (.invokevirtual 51, 3) := by decide +kernel
theorem dX1_resetColours_6 : decode cX1_resetColours 6 = .ok (.iconst 0, 1) := by decide +kernel
theorem dX1_resetColours_7 : decode cX1_resetColours 7 = .ok (.istore_n 2, 1) := by decide +kernel
theorem dX1_resetColours_8 : decode cX1_resetColours 8 = .ok (.iload_n 2, 1) := by decide +kernel
theorem dX1_resetColours_9 : decode cX1_resetColours 9 = .ok (.aload_n 0, 1) := by decide +kernel
theorem dX1_resetColours_10 : decode cX1_resetColours 10 = .ok (.getfield 35, 3) := by decide +kernel
theorem dX1_resetColours_13 : decode cX1_resetColours 13 = .ok (.if_icmp .ge 42, 3) := by decide +kernel
theorem dX1_resetColours_16 : decode cX1_resetColours 16 = .ok (.iload_n 1, 1) := by decide +kernel
theorem dX1_resetColours_17 : decode cX1_resetColours 17 = .ok (.aload_n 0, 1) := by decide +kernel
theorem dX1_resetColours_18 : decode cX1_resetColours 18 = .ok (.iload_n 2, 1) := by decide +kernel
theorem dX1_resetColours_19 : decode cX1_resetColours 19 = .ok (.invokevirtual 46, 3) := by decide +kernel
theorem dX1_resetColours_22 : decode cX1_resetColours 22 = .ok (.aload_n 0, 1) := by decide +kernel
theorem dX1_resetColours_23 : decode cX1_resetColours 23 = .ok (.getfield 7, 3) := by decide +kernel
theorem dX1_resetColours_26 : decode cX1_resetColours 26 = .ok (.iload_n 2, 1) := by decide +kernel
theorem dX1_resetColours_27 : decode cX1_resetColours 27 = .ok (.iaload, 1) := by decide +kernel
theorem dX1_resetColours_28 : decode cX1_resetColours 28 = .ok (.if_icmp .ne 7, 3) := by decide +kernel
theorem dX1_resetColours_31 : decode cX1_resetColours 31 = .ok (.iconst 0, 1) := by decide +kernel
theorem dX1_resetColours_32 : decode cX1_resetColours 32 = .ok (.goto 4, 3) := by decide +kernel
theorem dX1_resetColours_35 : decode cX1_resetColours 35 = .ok (.iconst 1, 1) := by decide +kernel
theorem dX1_resetColours_36 : decode cX1_resetColours 36 = .ok (.iadd, 1) := by decide +kernel
theorem dX1_resetColours_37 : decode cX1_resetColours 37 = .ok (.istore_n 1, 1) := by decide +kernel
theorem dX1_resetColours_38 : decode cX1_resetColours 38 = .ok (.aload_n 0, 1) := by decide +kernel
theorem dX1_resetColours_39 : decode cX1_resetColours 39 = .ok (.iload_n 2, 1) := by decide +kernel
theorem dX1_resetColours_40 : decode cX1_resetColours 40 = .ok (.aload_n 0, 1) := by decide +kernel
theorem dX1_resetColours_41 : decode cX1_resetColours 41 = .ok (.getfield 7, 3) := by decide +kernel
theorem dX1_resetColours_44 : decode cX1_resetColours 44 = .ok (.iload_n 2, 1) := by decide +kernel
theorem dX1_resetColours_45 : decode cX1_resetColours 45 = .ok (.iaload, 1) := by decide +kernel
theorem dX1_resetColours_46 : decode cX1_resetColours 46 = .ok (.invokevirtual 54, 3) := by decide +kernel
theorem dX1_resetColours_49 : decode cX1_resetColours 49 = .ok (.iinc 2 1, 3) := by decide +kernel
theorem dX1_resetColours_52 : decode cX1_resetColours 52 = .ok (.goto (-44), 3) := by decide +kernel
theorem dX1_resetColours_55 : decode cX1_resetColours 55 = .ok (.iload_n 1, 1) := by decide +kernel
theorem dX1_resetColours_56 : decode cX1_resetColours 56 = .ok (.ireturn, 1) := by decide +kernel
theorem dX1_isBeside_0 : decode cX1_isBeside 0 = .ok (.iconst 0, 1) := by decide +kernel
theorem dX1_isBeside_1 : decode cX1_isBeside 1 = .ok (.istore_n 3, 1) := by decide +kernel
theorem dX1_isBeside_2 : decode cX1_isBeside 2 = .ok (.iload_n 3, 1) := by decide +kernel
theorem dX1_isBeside_3 : decode cX1_isBeside 3 = .ok (.aload_n 0, 1) := by decide +kernel
theorem dX1_isBeside_4 : decode cX1_isBeside 4 = .ok (.getfield 35, 3) := by decide +kernel
theorem dX1_isBeside_7 : decode cX1_isBeside 7 = .ok (.if_icmp .ge 29, 3) := by decide +kernel
theorem dX1_isBeside_10 : decode cX1_isBeside 10 = .ok (.aload_n 0, 1) := by decide +kernel
theorem dX1_isBeside_11 : decode cX1_isBeside 11 = .ok (.iload_n 1, 1) := by decide +kernel
theorem dX1_isBeside_12 : decode cX1_isBeside 12 = .ok (.iload_n 3, 1) := by decide +kernel
theorem dX1_isBeside_13 : decode cX1_isBeside 13 = .ok (.invokevirtual 66, 3) := by decide +kernel
theorem dX1_isBeside_16 : decode cX1_isBeside 16 = .ok (.ifCond .eq 14, 3) := by decide +kernel
theorem dX1_isBeside_19 : decode cX1_isBeside 19 = .ok (.aload_n 0, 1) := by decide +kernel
theorem dX1_isBeside_20 : decode cX1_isBeside 20 = .ok (.iload_n 3, 1) := by decide +kernel
theorem dX1_isBeside_21 : decode cX1_isBeside 21 = .ok (.invokevirtual 46, 3) := by decide +kernel
theorem dX1_isBeside_24 : decode cX1_isBeside 24 = .ok (.iload_n 2, 1) := by decide +kernel
theorem dX1_isBeside_25 : decode cX1_isBeside 25 = .ok (.if_icmp .ne 5, 3) := by decide +kernel
theorem dX1_isBeside_28 : decode cX1_isBeside 28 = .ok (.iconst 1, 1) := by decide +kernel
theorem dX1_isBeside_29 : decode cX1_isBeside 29 = .ok (.ireturn, 1) := by decide +kernel
theorem dX1_isBeside_30 : decode cX1_isBeside 30 = .ok (.iinc 3 1, 3) := by decide +kernel
theorem dX1_isBeside_33 : decode cX1_isBeside 33 = .ok (.goto (-31), 3) := by decide +kernel
theorem dX1_isBeside_36 : decode cX1_isBeside 36 = .ok (.iconst 0, 1) := by decide +kernel
theorem dX1_isBeside_37 : decode cX1_isBeside 37 = .ok (.ireturn, 1) := by decide +kernel
theorem dX1_recolour_0 : decode cX1_recolour 0 = .ok (.aload_n 0, 1) := by decide +kernel
theorem dX1_recolour_1 : decode cX1_recolour 1 = .ok (.iload_n 1, 1) := by decide +kernel
theorem dX1_recolour_2 : decode cX1_recolour 2 = .ok (.invokevirtual 58, 3) := by decide +kernel
theorem dX1_recolour_5 : decode cX1_recolour 5 = .ok (.ifCond .ne 5, 3) := by decide +kernel
theorem dX1_recolour_8 : decode cX1_recolour 8 = .ok (.iconst (-1), 1) := by decide +kernel
theorem dX1_recolour_9 : decode cX1_recolour 9 = .ok (.ireturn, 1) := by decide +kernel
theorem dX1_recolour_10 : decode cX1_recolour 10 = .ok (.aload_n 0, 1) := by decide +kernel
theorem dX1_recolour_11 : decode cX1_recolour 11 = .ok (.invokevirtual 51, 3) := by decide +kernel
theorem dX1_recolour_14 : decode cX1_recolour 14 = .ok (.iconst 0, 1) := by decide +kernel
theorem dX1_recolour_15 : decode cX1_recolour 15 = .ok (.istore_n 2, 1) := by decide +kernel
theorem dX1_recolour_16 : decode cX1_recolour 16 = .ok (.aload_n 0, 1) := by decide +kernel
theorem dX1_recolour_17 : decode cX1_recolour 17 = .ok (.iload_n 1, 1) := by decide +kernel
theorem dX1_recolour_18 : decode cX1_recolour 18 = .ok (.iload_n 2, 1) := by decide +kernel
theorem dX1_recolour_19 : decode cX1_recolour 19 = .ok (.invokevirtual 79, 3) := by decide +kernel
theorem dX1_recolour_22 : decode cX1_recolour 22 = .ok (.ifCond .eq 9, 3) := by decide +kernel
theorem dX1_recolour_25 : decode cX1_recolour 25 = .ok (.iinc 2 1, 3) := by decide +kernel
theorem dX1_recolour_28 : decode cX1_recolour 28 = .ok (.goto (-12), 3) := by decide +kernel
theorem dX1_recolour_31 : decode cX1_recolour 31 = .ok (.aload_n 0, 1) := by decide +kernel
theorem dX1_recolour_32 : decode cX1_recolour 32 = .ok (.iload_n 1, 1) := by decide +kernel
theorem dX1_recolour_33 : decode cX1_recolour 33 = .ok (.iload_n 2, 1) := by decide +kernel
theorem dX1_recolour_34 : decode cX1_recolour 34 = .ok (.invokevirtual 54, 3) := by decide +kernel
theorem dX1_recolour_37 : decode cX1_recolour 37 = .ok (.iload_n 2, 1) := by decide +kernel
theorem dX1_recolour_38 : decode cX1_recolour 38 = .ok (.ireturn, 1) := by decide +kernel
theorem dX1_colourCount_0 : decode cX1_colourCount 0 = .ok (.iconst 0, 1) := by decide +kernel
theorem dX1_colourCount_1 : decode cX1_colourCount 1 = .ok (.istore_n 1, 1) := by decide +kernel
theorem dX1_colourCount_2 : decode cX1_colourCount 2 = .ok (.iconst 0, 1) := by decide +kernel
theorem dX1_colourCount_3 : decode cX1_colourCount 3 = .ok (.istore_n 2, 1) := by decide +kernel
theorem dX1_colourCount_4 : decode cX1_colourCount 4 = .ok (.iload_n 2, 1) := by decide +kernel
theorem dX1_colourCount_5 : decode cX1_colourCount 5 = .ok (.aload_n 0, 1) := by decide +kernel
theorem dX1_colourCount_6 : decode cX1_colourCount 6 = .ok (.getfield 35, 3) := by decide +kernel
theorem dX1_colourCount_9 : decode cX1_colourCount 9 = .ok (.if_icmp .ge 62, 3) := by decide +kernel
theorem dX1_colourCount_12 : decode cX1_colourCount 12 = .ok (.iconst 1, 1) := by decide +kernel
theorem dX1_colourCount_13 : decode cX1_colourCount 13 = .ok (.istore_n 3, 1) := by decide +kernel
theorem dX1_colourCount_14 : decode cX1_colourCount 14 = .ok (.iconst 0, 1) := by decide +kernel
theorem dX1_colourCount_15 : decode cX1_colourCount 15 = .ok (.istore 4, 2) := by decide +kernel
theorem dX1_colourCount_17 : decode cX1_colourCount 17 = .ok (.iload 4, 2) := by decide +kernel
theorem dX1_colourCount_19 : decode cX1_colourCount 19 = .ok (.iload_n 2, 1) := by decide +kernel
theorem dX1_colourCount_20 : decode cX1_colourCount 20 = .ok (.if_icmp .ge 33, 3) := by decide +kernel
theorem dX1_colourCount_23 : decode cX1_colourCount 23 = .ok (.iload_n 3, 1) := by decide +kernel
theorem dX1_colourCount_24 : decode cX1_colourCount 24 = .ok (.ifCond .eq 21, 3) := by decide +kernel
theorem dX1_colourCount_27 : decode cX1_colourCount 27 = .ok (.aload_n 0, 1) := by decide +kernel
theorem dX1_colourCount_28 : decode cX1_colourCount 28 = .ok (.iload 4, 2) := by decide +kernel
theorem dX1_colourCount_30 : decode cX1_colourCount 30 = .ok (.invokevirtual 46, 3) := by decide +kernel
theorem dX1_colourCount_33 : decode cX1_colourCount 33 = .ok (.aload_n 0, 1) := by decide +kernel
theorem dX1_colourCount_34 : decode cX1_colourCount 34 = .ok (.iload_n 2, 1) := by decide +kernel
theorem dX1_colourCount_35 : decode cX1_colourCount 35 = .ok (.invokevirtual 46, 3) := by decide +kernel
theorem dX1_colourCount_38 : decode cX1_colourCount 38 = .ok (.if_icmp .eq 7, 3) := by decide +kernel
theorem dX1_colourCount_41 : decode cX1_colourCount 41 = .ok (.iconst 1, 1) := by decide +kernel
theorem dX1_colourCount_42 : decode cX1_colourCount 42 = .ok (.goto 4, 3) := by decide +kernel
theorem dX1_colourCount_45 : decode cX1_colourCount 45 = .ok (.iconst 0, 1) := by decide +kernel
theorem dX1_colourCount_46 : decode cX1_colourCount 46 = .ok (.istore_n 3, 1) := by decide +kernel
theorem dX1_colourCount_47 : decode cX1_colourCount 47 = .ok (.iinc 4 1, 3) := by decide +kernel
theorem dX1_colourCount_50 : decode cX1_colourCount 50 = .ok (.goto (-33), 3) := by decide +kernel
theorem dX1_colourCount_53 : decode cX1_colourCount 53 = .ok (.iload_n 1, 1) := by decide +kernel
theorem dX1_colourCount_54 : decode cX1_colourCount 54 = .ok (.iload_n 3, 1) := by decide +kernel
theorem dX1_colourCount_55 : decode cX1_colourCount 55 = .ok (.ifCond .eq 7, 3) := by decide +kernel
theorem dX1_colourCount_58 : decode cX1_colourCount 58 = .ok (.iconst 1, 1) := by decide +kernel
theorem dX1_colourCount_59 : decode cX1_colourCount 59 = .ok (.goto 4, 3) := by decide +kernel
theorem dX1_colourCount_62 : decode cX1_colourCount 62 = .ok (.iconst 0, 1) := by decide +kernel
theorem dX1_colourCount_63 : decode cX1_colourCount 63 = .ok (.iadd, 1) := by decide +kernel
theorem dX1_colourCount_64 : decode cX1_colourCount 64 = .ok (.istore_n 1, 1) := by decide +kernel
theorem dX1_colourCount_65 : decode cX1_colourCount 65 = .ok (.iinc 2 1, 3) := by decide +kernel
theorem dX1_colourCount_68 : decode cX1_colourCount 68 = .ok (.goto (-64), 3) := by decide +kernel
theorem dX1_colourCount_71 : decode cX1_colourCount 71 = .ok (.iload_n 1, 1) := by decide +kernel
theorem dX1_colourCount_72 : decode cX1_colourCount 72 = .ok (.ireturn, 1) := by decide +kernel
theorem dX1_greatest_0 : decode cX1_greatest 0 = .ok (.bipush (-7), 2) := by decide +kernel
theorem dX1_greatest_2 : decode cX1_greatest 2 = .ok (.istore_n 1, 1) := by decide +kernel
theorem dX1_greatest_3 : decode cX1_greatest 3 = .ok (.iconst 0, 1) := by decide +kernel
theorem dX1_greatest_4 : decode cX1_greatest 4 = .ok (.istore_n 2, 1) := by decide +kernel
theorem dX1_greatest_5 : decode cX1_greatest 5 = .ok (.iload_n 2, 1) := by decide +kernel
theorem dX1_greatest_6 : decode cX1_greatest 6 = .ok (.aload_n 0, 1) := by decide +kernel
theorem dX1_greatest_7 : decode cX1_greatest 7 = .ok (.getfield 35, 3) := by decide +kernel
theorem dX1_greatest_10 : decode cX1_greatest 10 = .ok (.if_icmp .ge 28, 3) := by decide +kernel
theorem dX1_greatest_13 : decode cX1_greatest 13 = .ok (.aload_n 0, 1) := by decide +kernel
theorem dX1_greatest_14 : decode cX1_greatest 14 = .ok (.iload_n 2, 1) := by decide +kernel
theorem dX1_greatest_15 : decode cX1_greatest 15 = .ok (.invokevirtual 46, 3) := by decide +kernel
theorem dX1_greatest_18 : decode cX1_greatest 18 = .ok (.iload_n 1, 1) := by decide +kernel
theorem dX1_greatest_19 : decode cX1_greatest 19 = .ok (.if_icmp .le 11, 3) := by decide +kernel
theorem dX1_greatest_22 : decode cX1_greatest 22 = .ok (.aload_n 0, 1) := by decide +kernel
theorem dX1_greatest_23 : decode cX1_greatest 23 = .ok (.iload_n 2, 1) := by decide +kernel
theorem dX1_greatest_24 : decode cX1_greatest 24 = .ok (.invokevirtual 46, 3) := by decide +kernel
theorem dX1_greatest_27 : decode cX1_greatest 27 = .ok (.goto 4, 3) := by decide +kernel
theorem dX1_greatest_30 : decode cX1_greatest 30 = .ok (.iload_n 1, 1) := by decide +kernel
theorem dX1_greatest_31 : decode cX1_greatest 31 = .ok (.istore_n 1, 1) := by decide +kernel
theorem dX1_greatest_32 : decode cX1_greatest 32 = .ok (.iinc 2 1, 3) := by decide +kernel
theorem dX1_greatest_35 : decode cX1_greatest 35 = .ok (.goto (-30), 3) := by decide +kernel
theorem dX1_greatest_38 : decode cX1_greatest 38 = .ok (.iload_n 1, 1) := by decide +kernel
theorem dX1_greatest_39 : decode cX1_greatest 39 = .ok (.ireturn, 1) := by decide +kernel
theorem dX1_greatestColour_0 : decode cX1_greatestColour 0 = .ok (.aload_n 0, 1) := by decide +kernel
theorem dX1_greatestColour_1 : decode cX1_greatestColour 1 = .ok (.invokevirtual 82, 3) := by decide +kernel
theorem dX1_greatestColour_4 : decode cX1_greatestColour 4 = .ok (.ireturn, 1) := by decide +kernel
theorem dX1_isConflict_0 : decode cX1_isConflict 0 = .ok (.aload_n 0, 1) := by decide +kernel
theorem dX1_isConflict_1 : decode cX1_isConflict 1 = .ok (.getfield 13, 3) := by decide +kernel
theorem dX1_isConflict_4 : decode cX1_isConflict 4 = .ok (.iload_n 1, 1) := by decide +kernel
theorem dX1_isConflict_5 : decode cX1_isConflict 5 = .ok (.iaload, 1) := by decide +kernel
theorem dX1_isConflict_6 : decode cX1_isConflict 6 = .ok (.bipush (-7), 2) := by decide +kernel
theorem dX1_isConflict_8 : decode cX1_isConflict 8 = .ok (.if_icmp .eq 25, 3) := by decide +kernel
theorem dX1_isConflict_11 : decode cX1_isConflict 11 = .ok (.aload_n 0, 1) := by decide +kernel
theorem dX1_isConflict_12 : decode cX1_isConflict 12 = .ok (.aload_n 0, 1) := by decide +kernel
theorem dX1_isConflict_13 : decode cX1_isConflict 13 = .ok (.getfield 13, 3) := by decide +kernel
theorem dX1_isConflict_16 : decode cX1_isConflict 16 = .ok (.iload_n 1, 1) := by decide +kernel
theorem dX1_isConflict_17 : decode cX1_isConflict 17 = .ok (.iaload, 1) := by decide +kernel
theorem dX1_isConflict_18 : decode cX1_isConflict 18 = .ok (.invokevirtual 46, 3) := by decide +kernel
theorem dX1_isConflict_21 : decode cX1_isConflict 21 = .ok (.aload_n 0, 1) := by decide +kernel
theorem dX1_isConflict_22 : decode cX1_isConflict 22 = .ok (.iload_n 1, 1) := by decide +kernel
theorem dX1_isConflict_23 : decode cX1_isConflict 23 = .ok (.invokevirtual 46, 3) := by decide +kernel
theorem dX1_isConflict_26 : decode cX1_isConflict 26 = .ok (.if_icmp .ne 7, 3) := by decide +kernel
theorem dX1_isConflict_29 : decode cX1_isConflict 29 = .ok (.iconst 1, 1) := by decide +kernel
theorem dX1_isConflict_30 : decode cX1_isConflict 30 = .ok (.goto 4, 3) := by decide +kernel
theorem dX1_isConflict_33 : decode cX1_isConflict 33 = .ok (.iconst 0, 1) := by decide +kernel
theorem dX1_isConflict_34 : decode cX1_isConflict 34 = .ok (.ireturn, 1) := by decide +kernel
theorem dX1_conflicts_0 : decode cX1_conflicts 0 = .ok (.iconst 0, 1) := by decide +kernel
theorem dX1_conflicts_1 : decode cX1_conflicts 1 = .ok (.istore_n 1, 1) := by decide +kernel
theorem dX1_conflicts_2 : decode cX1_conflicts 2 = .ok (.iconst 0, 1) := by decide +kernel
theorem dX1_conflicts_3 : decode cX1_conflicts 3 = .ok (.istore_n 2, 1) := by decide +kernel
theorem dX1_conflicts_4 : decode cX1_conflicts 4 = .ok (.iload_n 2, 1) := by decide +kernel
theorem dX1_conflicts_5 : decode cX1_conflicts 5 = .ok (.aload_n 0, 1) := by decide +kernel
theorem dX1_conflicts_6 : decode cX1_conflicts 6 = .ok (.getfield 35, 3) := by decide +kernel
theorem dX1_conflicts_9 : decode cX1_conflicts 9 = .ok (.if_icmp .ge 25, 3) := by decide +kernel
theorem dX1_conflicts_12 : decode cX1_conflicts 12 = .ok (.iload_n 1, 1) := by decide +kernel
theorem dX1_conflicts_13 : decode cX1_conflicts 13 = .ok (.aload_n 0, 1) := by decide +kernel
theorem dX1_conflicts_14 : decode cX1_conflicts 14 = .ok (.iload_n 2, 1) := by decide +kernel
theorem dX1_conflicts_15 : decode cX1_conflicts 15 = .ok (.invokevirtual 86, 3) := by decide +kernel
theorem dX1_conflicts_18 : decode cX1_conflicts 18 = .ok (.ifCond .eq 7, 3) := by decide +kernel
theorem dX1_conflicts_21 : decode cX1_conflicts 21 = .ok (.iconst 1, 1) := by decide +kernel
theorem dX1_conflicts_22 : decode cX1_conflicts 22 = .ok (.goto 4, 3) := by decide +kernel
theorem dX1_conflicts_25 : decode cX1_conflicts 25 = .ok (.iconst 0, 1) := by decide +kernel
theorem dX1_conflicts_26 : decode cX1_conflicts 26 = .ok (.iadd, 1) := by decide +kernel
theorem dX1_conflicts_27 : decode cX1_conflicts 27 = .ok (.istore_n 1, 1) := by decide +kernel
theorem dX1_conflicts_28 : decode cX1_conflicts 28 = .ok (.iinc 2 1, 3) := by decide +kernel
theorem dX1_conflicts_31 : decode cX1_conflicts 31 = .ok (.goto (-27), 3) := by decide +kernel
theorem dX1_conflicts_34 : decode cX1_conflicts 34 = .ok (.iload_n 1, 1) := by decide +kernel
theorem dX1_conflicts_35 : decode cX1_conflicts 35 = .ok (.ireturn, 1) := by decide +kernel
theorem dX1_conflictCount_0 : decode cX1_conflictCount 0 = .ok (.aload_n 0, 1) := by decide +kernel
theorem dX1_conflictCount_1 : decode cX1_conflictCount 1 = .ok (.invokevirtual 89, 3) := by decide +kernel
theorem dX1_conflictCount_4 : decode cX1_conflictCount 4 = .ok (.ireturn, 1) := by decide +kernel
theorem dX1_bitOf_0 : decode cX1_bitOf 0 = .ok (.aload_n 0, 1) := by decide +kernel
theorem dX1_bitOf_1 : decode cX1_bitOf 1 = .ok (.getfield 13, 3) := by decide +kernel
theorem dX1_bitOf_4 : decode cX1_bitOf 4 = .ok (.iload_n 1, 1) := by decide +kernel
theorem dX1_bitOf_5 : decode cX1_bitOf 5 = .ok (.iaload, 1) := by decide +kernel
theorem dX1_bitOf_6 : decode cX1_bitOf 6 = .ok (.bipush (-7), 2) := by decide +kernel
theorem dX1_bitOf_8 : decode cX1_bitOf 8 = .ok (.if_icmp .ne 5, 3) := by decide +kernel
theorem dX1_bitOf_11 : decode cX1_bitOf 11 = .ok (.iconst 0, 1) := by decide +kernel
theorem dX1_bitOf_12 : decode cX1_bitOf 12 = .ok (.ireturn, 1) := by decide +kernel
theorem dX1_bitOf_13 : decode cX1_bitOf 13 = .ok (.aload_n 0, 1) := by decide +kernel
theorem dX1_bitOf_14 : decode cX1_bitOf 14 = .ok (.iload_n 1, 1) := by decide +kernel
theorem dX1_bitOf_15 : decode cX1_bitOf 15 = .ok (.invokevirtual 46, 3) := by decide +kernel
theorem dX1_bitOf_18 : decode cX1_bitOf 18 = .ok (.aload_n 0, 1) := by decide +kernel
theorem dX1_bitOf_19 : decode cX1_bitOf 19 = .ok (.aload_n 0, 1) := by decide +kernel
theorem dX1_bitOf_20 : decode cX1_bitOf 20 = .ok (.getfield 13, 3) := by decide +kernel
theorem dX1_bitOf_23 : decode cX1_bitOf 23 = .ok (.iload_n 1, 1) := by decide +kernel
theorem dX1_bitOf_24 : decode cX1_bitOf 24 = .ok (.iaload, 1) := by decide +kernel
theorem dX1_bitOf_25 : decode cX1_bitOf 25 = .ok (.invokevirtual 46, 3) := by decide +kernel
theorem dX1_bitOf_28 : decode cX1_bitOf 28 = .ok (.ixor, 1) := by decide +kernel
theorem dX1_bitOf_29 : decode cX1_bitOf 29 = .ok (.istore_n 2, 1) := by decide +kernel
theorem dX1_bitOf_30 : decode cX1_bitOf 30 = .ok (.iconst 0, 1) := by decide +kernel
theorem dX1_bitOf_31 : decode cX1_bitOf 31 = .ok (.istore_n 3, 1) := by decide +kernel
theorem dX1_bitOf_32 : decode cX1_bitOf 32 = .ok (.iload_n 2, 1) := by decide +kernel
theorem dX1_bitOf_33 : decode cX1_bitOf 33 = .ok (.iload_n 3, 1) := by decide +kernel
theorem dX1_bitOf_34 : decode cX1_bitOf 34 = .ok (.ishr, 1) := by decide +kernel
theorem dX1_bitOf_35 : decode cX1_bitOf 35 = .ok (.iconst 1, 1) := by decide +kernel
theorem dX1_bitOf_36 : decode cX1_bitOf 36 = .ok (.iand, 1) := by decide +kernel
theorem dX1_bitOf_37 : decode cX1_bitOf 37 = .ok (.ifCond .ne 9, 3) := by decide +kernel
theorem dX1_bitOf_40 : decode cX1_bitOf 40 = .ok (.iinc 3 1, 3) := by decide +kernel
theorem dX1_bitOf_43 : decode cX1_bitOf 43 = .ok (.goto (-11), 3) := by decide +kernel
theorem dX1_bitOf_46 : decode cX1_bitOf 46 = .ok (.iload_n 3, 1) := by decide +kernel
theorem dX1_bitOf_47 : decode cX1_bitOf 47 = .ok (.ireturn, 1) := by decide +kernel
theorem dX1_differingBit_0 : decode cX1_differingBit 0 = .ok (.aload_n 0, 1) := by decide +kernel
theorem dX1_differingBit_1 : decode cX1_differingBit 1 = .ok (.iload_n 1, 1) := by decide +kernel
theorem dX1_differingBit_2 : decode cX1_differingBit 2 = .ok (.invokevirtual 58, 3) := by decide +kernel
theorem dX1_differingBit_5 : decode cX1_differingBit 5 = .ok (.ifCond .ne 5, 3) := by decide +kernel
theorem dX1_differingBit_8 : decode cX1_differingBit 8 = .ok (.iconst (-1), 1) := by decide +kernel
theorem dX1_differingBit_9 : decode cX1_differingBit 9 = .ok (.ireturn, 1) := by decide +kernel
theorem dX1_differingBit_10 : decode cX1_differingBit 10 = .ok (.aload_n 0, 1) := by decide +kernel
theorem dX1_differingBit_11 : decode cX1_differingBit 11 = .ok (.iload_n 1, 1) := by decide +kernel
theorem dX1_differingBit_12 : decode cX1_differingBit 12 = .ok (.invokevirtual 86, 3) := by decide +kernel
theorem dX1_differingBit_15 : decode cX1_differingBit 15 = .ok (.ifCond .eq 8, 3) := by decide +kernel
theorem dX1_differingBit_18 : decode cX1_differingBit 18 = .ok (.bipush (-5), 2) := by decide +kernel
theorem dX1_differingBit_20 : decode cX1_differingBit 20 = .ok (.goto 8, 3) := by decide +kernel
theorem dX1_differingBit_23 : decode cX1_differingBit 23 = .ok (.aload_n 0, 1) := by decide +kernel
theorem dX1_differingBit_24 : decode cX1_differingBit 24 = .ok (.iload_n 1, 1) := by decide +kernel
theorem dX1_differingBit_25 : decode cX1_differingBit 25 = .ok (.invokevirtual 92, 3) := by decide +kernel
theorem dX1_differingBit_28 : decode cX1_differingBit 28 = .ok (.ireturn, 1) := by decide +kernel
theorem dX1_ends_0 : decode cX1_ends 0 = .ok (.aload_n 0, 1) := by decide +kernel
theorem dX1_ends_1 : decode cX1_ends 1 = .ok (.dup, 1) := by decide +kernel
theorem dX1_ends_2 : decode cX1_ends 2 = .ok (.getfield 43, 3) := by decide +kernel
theorem dX1_ends_5 : decode cX1_ends 5 = .ok (.iconst 1, 1) := by decide +kernel
theorem dX1_ends_6 : decode cX1_ends 6 = .ok (.iadd, 1) := by decide +kernel
theorem dX1_ends_7 : decode cX1_ends 7 = .ok (.putfield 43, 3) := by decide +kernel
theorem dX1_ends_10 : decode cX1_ends 10 = .ok (.iconst 0, 1) := by decide +kernel
theorem dX1_ends_11 : decode cX1_ends 11 = .ok (.istore_n 1, 1) := by decide +kernel
theorem dX1_ends_12 : decode cX1_ends 12 = .ok (.iload_n 1, 1) := by decide +kernel
theorem dX1_ends_13 : decode cX1_ends 13 = .ok (.aload_n 0, 1) := by decide +kernel
theorem dX1_ends_14 : decode cX1_ends 14 = .ok (.getfield 35, 3) := by decide +kernel
theorem dX1_ends_17 : decode cX1_ends 17 = .ok (.if_icmp .ge 20, 3) := by decide +kernel
theorem dX1_ends_20 : decode cX1_ends 20 = .ok (.aload_n 0, 1) := by decide +kernel
theorem dX1_ends_21 : decode cX1_ends 21 = .ok (.iload_n 1, 1) := by decide +kernel
theorem dX1_ends_22 : decode cX1_ends 22 = .ok (.aload_n 0, 1) := by decide +kernel
theorem dX1_ends_23 : decode cX1_ends 23 = .ok (.getfield 19, 3) := by decide +kernel
theorem dX1_ends_26 : decode cX1_ends 26 = .ok (.iload_n 1, 1) := by decide +kernel
theorem dX1_ends_27 : decode cX1_ends 27 = .ok (.iaload, 1) := by decide +kernel
theorem dX1_ends_28 : decode cX1_ends 28 = .ok (.invokevirtual 54, 3) := by decide +kernel
theorem dX1_ends_31 : decode cX1_ends 31 = .ok (.iinc 1 1, 3) := by decide +kernel
theorem dX1_ends_34 : decode cX1_ends 34 = .ok (.goto (-22), 3) := by decide +kernel
theorem dX1_ends_37 : decode cX1_ends 37 = .ok (.return_, 1) := by decide +kernel
theorem dX1_reduces_0 : decode cX1_reduces 0 = .ok (.iconst 0, 1) := by decide +kernel
theorem dX1_reduces_1 : decode cX1_reduces 1 = .ok (.istore_n 1, 1) := by decide +kernel
theorem dX1_reduces_2 : decode cX1_reduces 2 = .ok (.iload_n 1, 1) := by decide +kernel
theorem dX1_reduces_3 : decode cX1_reduces 3 = .ok (.aload_n 0, 1) := by decide +kernel
theorem dX1_reduces_4 : decode cX1_reduces 4 = .ok (.getfield 35, 3) := by decide +kernel
theorem dX1_reduces_7 : decode cX1_reduces 7 = .ok (.if_icmp .ge 34, 3) := by decide +kernel
theorem dX1_reduces_10 : decode cX1_reduces 10 = .ok (.aload_n 0, 1) := by decide +kernel
theorem dX1_reduces_11 : decode cX1_reduces 11 = .ok (.iload_n 1, 1) := by decide +kernel
theorem dX1_reduces_12 : decode cX1_reduces 12 = .ok (.invokevirtual 92, 3) := by decide +kernel
theorem dX1_reduces_15 : decode cX1_reduces 15 = .ok (.istore_n 2, 1) := by decide +kernel
theorem dX1_reduces_16 : decode cX1_reduces 16 = .ok (.aload_n 0, 1) := by decide +kernel
theorem dX1_reduces_17 : decode cX1_reduces 17 = .ok (.getfield 19, 3) := by decide +kernel
theorem dX1_reduces_20 : decode cX1_reduces 20 = .ok (.iload_n 1, 1) := by decide +kernel
theorem dX1_reduces_21 : decode cX1_reduces 21 = .ok (.iconst 2, 1) := by decide +kernel
theorem dX1_reduces_22 : decode cX1_reduces 22 = .ok (.iload_n 2, 1) := by decide +kernel
theorem dX1_reduces_23 : decode cX1_reduces 23 = .ok (.imul, 1) := by decide +kernel
theorem dX1_reduces_24 : decode cX1_reduces 24 = .ok (.aload_n 0, 1) := by decide +kernel
theorem dX1_reduces_25 : decode cX1_reduces 25 = .ok (.iload_n 1, 1) := by decide +kernel
theorem dX1_reduces_26 : decode cX1_reduces 26 = .ok (.invokevirtual 46, 3) := by decide +kernel
theorem dX1_reduces_29 : decode cX1_reduces 29 = .ok (.iload_n 2, 1) := by decide +kernel
theorem dX1_reduces_30 : decode cX1_reduces 30 = .ok (.ishr, 1) := by decide +kernel
theorem dX1_reduces_31 : decode cX1_reduces 31 = .ok (.iconst 1, 1) := by decide +kernel
theorem dX1_reduces_32 : decode cX1_reduces 32 = .ok (.iand, 1) := by decide +kernel
theorem dX1_reduces_33 : decode cX1_reduces 33 = .ok (.iadd, 1) := by decide +kernel
theorem dX1_reduces_34 : decode cX1_reduces 34 = .ok (.iastore, 1) := by decide +kernel
theorem dX1_reduces_35 : decode cX1_reduces 35 = .ok (.iinc 1 1, 3) := by decide +kernel
theorem dX1_reduces_38 : decode cX1_reduces 38 = .ok (.goto (-36), 3) := by decide +kernel
theorem dX1_reduces_41 : decode cX1_reduces 41 = .ok (.aload_n 0, 1) := by decide +kernel
theorem dX1_reduces_42 : decode cX1_reduces 42 = .ok (.invokevirtual 95, 3) := by decide +kernel
theorem dX1_reduces_45 : decode cX1_reduces 45 = .ok (.return_, 1) := by decide +kernel
theorem dX1_reduce_0 : decode cX1_reduce 0 = .ok (.aload_n 0, 1) := by decide +kernel
theorem dX1_reduce_1 : decode cX1_reduce 1 = .ok (.invokevirtual 89, 3) := by decide +kernel
theorem dX1_reduce_4 : decode cX1_reduce 4 = .ok (.ifCond .le 6, 3) := by decide +kernel
theorem dX1_reduce_7 : decode cX1_reduce 7 = .ok (.bipush (-5), 2) := by decide +kernel
theorem dX1_reduce_9 : decode cX1_reduce 9 = .ok (.ireturn, 1) := by decide +kernel
theorem dX1_reduce_10 : decode cX1_reduce 10 = .ok (.aload_n 0, 1) := by decide +kernel
theorem dX1_reduce_11 : decode cX1_reduce 11 = .ok (.invokevirtual 98, 3) := by decide +kernel
theorem dX1_reduce_14 : decode cX1_reduce 14 = .ok (.aload_n 0, 1) := by decide +kernel
theorem dX1_reduce_15 : decode cX1_reduce 15 = .ok (.invokevirtual 82, 3) := by decide +kernel
theorem dX1_reduce_18 : decode cX1_reduce 18 = .ok (.ireturn, 1) := by decide +kernel
theorem dX1_shift_0 : decode cX1_shift 0 = .ok (.iconst 0, 1) := by decide +kernel
theorem dX1_shift_1 : decode cX1_shift 1 = .ok (.istore_n 1, 1) := by decide +kernel
theorem dX1_shift_2 : decode cX1_shift 2 = .ok (.iconst 0, 1) := by decide +kernel
theorem dX1_shift_3 : decode cX1_shift 3 = .ok (.istore_n 2, 1) := by decide +kernel
theorem dX1_shift_4 : decode cX1_shift 4 = .ok (.iload_n 2, 1) := by decide +kernel
theorem dX1_shift_5 : decode cX1_shift 5 = .ok (.aload_n 0, 1) := by decide +kernel
theorem dX1_shift_6 : decode cX1_shift 6 = .ok (.getfield 35, 3) := by decide +kernel
theorem dX1_shift_9 : decode cX1_shift 9 = .ok (.if_icmp .ge 74, 3) := by decide +kernel
theorem dX1_shift_12 : decode cX1_shift 12 = .ok (.aload_n 0, 1) := by decide +kernel
theorem dX1_shift_13 : decode cX1_shift 13 = .ok (.getfield 19, 3) := by decide +kernel
theorem dX1_shift_16 : decode cX1_shift 16 = .ok (.iload_n 2, 1) := by decide +kernel
theorem dX1_shift_17 : decode cX1_shift 17 = .ok (.aload_n 0, 1) := by decide +kernel
theorem dX1_shift_18 : decode cX1_shift 18 = .ok (.getfield 13, 3) := by decide +kernel
theorem dX1_shift_21 : decode cX1_shift 21 = .ok (.iload_n 2, 1) := by decide +kernel
theorem dX1_shift_22 : decode cX1_shift 22 = .ok (.iaload, 1) := by decide +kernel
theorem dX1_shift_23 : decode cX1_shift 23 = .ok (.bipush (-7), 2) := by decide +kernel
theorem dX1_shift_25 : decode cX1_shift 25 = .ok (.if_icmp .ne 19, 3) := by decide +kernel
theorem dX1_shift_28 : decode cX1_shift 28 = .ok (.aload_n 0, 1) := by decide +kernel
theorem dX1_shift_29 : decode cX1_shift 29 = .ok (.iload_n 2, 1) := by decide +kernel
theorem dX1_shift_30 : decode cX1_shift 30 = .ok (.invokevirtual 46, 3) := by decide +kernel
theorem dX1_shift_33 : decode cX1_shift 33 = .ok (.ifCond .ne 7, 3) := by decide +kernel
theorem dX1_shift_36 : decode cX1_shift 36 = .ok (.iconst 1, 1) := by decide +kernel
theorem dX1_shift_37 : decode cX1_shift 37 = .ok (.goto 17, 3) := by decide +kernel
theorem dX1_shift_40 : decode cX1_shift 40 = .ok (.iconst 0, 1) := by decide +kernel
theorem dX1_shift_41 : decode cX1_shift 41 = .ok (.goto 13, 3) := by decide +kernel
theorem dX1_shift_44 : decode cX1_shift 44 = .ok (.aload_n 0, 1) := by decide +kernel
theorem dX1_shift_45 : decode cX1_shift 45 = .ok (.aload_n 0, 1) := by decide +kernel
theorem dX1_shift_46 : decode cX1_shift 46 = .ok (.getfield 13, 3) := by decide +kernel
theorem dX1_shift_49 : decode cX1_shift 49 = .ok (.iload_n 2, 1) := by decide +kernel
theorem dX1_shift_50 : decode cX1_shift 50 = .ok (.iaload, 1) := by decide +kernel
theorem dX1_shift_51 : decode cX1_shift 51 = .ok (.invokevirtual 46, 3) := by decide +kernel
theorem dX1_shift_54 : decode cX1_shift 54 = .ok (.iastore, 1) := by decide +kernel
theorem dX1_shift_55 : decode cX1_shift 55 = .ok (.iload_n 1, 1) := by decide +kernel
theorem dX1_shift_56 : decode cX1_shift 56 = .ok (.aload_n 0, 1) := by decide +kernel
theorem dX1_shift_57 : decode cX1_shift 57 = .ok (.getfield 19, 3) := by decide +kernel
theorem dX1_shift_60 : decode cX1_shift 60 = .ok (.iload_n 2, 1) := by decide +kernel
theorem dX1_shift_61 : decode cX1_shift 61 = .ok (.iaload, 1) := by decide +kernel
theorem dX1_shift_62 : decode cX1_shift 62 = .ok (.aload_n 0, 1) := by decide +kernel
theorem dX1_shift_63 : decode cX1_shift 63 = .ok (.iload_n 2, 1) := by decide +kernel
theorem dX1_shift_64 : decode cX1_shift 64 = .ok (.invokevirtual 46, 3) := by decide +kernel
theorem dX1_shift_67 : decode cX1_shift 67 = .ok (.if_icmp .ne 7, 3) := by decide +kernel
theorem dX1_shift_70 : decode cX1_shift 70 = .ok (.iconst 0, 1) := by decide +kernel
theorem dX1_shift_71 : decode cX1_shift 71 = .ok (.goto 4, 3) := by decide +kernel
theorem dX1_shift_74 : decode cX1_shift 74 = .ok (.iconst 1, 1) := by decide +kernel
theorem dX1_shift_75 : decode cX1_shift 75 = .ok (.iadd, 1) := by decide +kernel
theorem dX1_shift_76 : decode cX1_shift 76 = .ok (.istore_n 1, 1) := by decide +kernel
theorem dX1_shift_77 : decode cX1_shift 77 = .ok (.iinc 2 1, 3) := by decide +kernel
theorem dX1_shift_80 : decode cX1_shift 80 = .ok (.goto (-76), 3) := by decide +kernel
theorem dX1_shift_83 : decode cX1_shift 83 = .ok (.aload_n 0, 1) := by decide +kernel
theorem dX1_shift_84 : decode cX1_shift 84 = .ok (.invokevirtual 95, 3) := by decide +kernel
theorem dX1_shift_87 : decode cX1_shift 87 = .ok (.iload_n 1, 1) := by decide +kernel
theorem dX1_shift_88 : decode cX1_shift 88 = .ok (.ireturn, 1) := by decide +kernel
theorem dX1_freeOf_0 : decode cX1_freeOf 0 = .ok (.iconst 0, 1) := by decide +kernel
theorem dX1_freeOf_1 : decode cX1_freeOf 1 = .ok (.istore_n 2, 1) := by decide +kernel
theorem dX1_freeOf_2 : decode cX1_freeOf 2 = .ok (.iload_n 2, 1) := by decide +kernel
theorem dX1_freeOf_3 : decode cX1_freeOf 3 = .ok (.iconst 3, 1) := by decide +kernel
theorem dX1_freeOf_4 : decode cX1_freeOf 4 = .ok (.if_icmp .ge 20, 3) := by decide +kernel
theorem dX1_freeOf_7 : decode cX1_freeOf 7 = .ok (.aload_n 0, 1) := by decide +kernel
theorem dX1_freeOf_8 : decode cX1_freeOf 8 = .ok (.iload_n 1, 1) := by decide +kernel
theorem dX1_freeOf_9 : decode cX1_freeOf 9 = .ok (.iload_n 2, 1) := by decide +kernel
theorem dX1_freeOf_10 : decode cX1_freeOf 10 = .ok (.invokevirtual 79, 3) := by decide +kernel
theorem dX1_freeOf_13 : decode cX1_freeOf 13 = .ok (.ifCond .ne 5, 3) := by decide +kernel
theorem dX1_freeOf_16 : decode cX1_freeOf 16 = .ok (.iload_n 2, 1) := by decide +kernel
theorem dX1_freeOf_17 : decode cX1_freeOf 17 = .ok (.ireturn, 1) := by decide +kernel
theorem dX1_freeOf_18 : decode cX1_freeOf 18 = .ok (.iinc 2 1, 3) := by decide +kernel
theorem dX1_freeOf_21 : decode cX1_freeOf 21 = .ok (.goto (-19), 3) := by decide +kernel
theorem dX1_freeOf_24 : decode cX1_freeOf 24 = .ok (.bipush (-7), 2) := by decide +kernel
theorem dX1_freeOf_26 : decode cX1_freeOf 26 = .ok (.ireturn, 1) := by decide +kernel
theorem dX1_eliminates_0 : decode cX1_eliminates 0 = .ok (.iconst 0, 1) := by decide +kernel
theorem dX1_eliminates_1 : decode cX1_eliminates 1 = .ok (.istore_n 2, 1) := by decide +kernel
theorem dX1_eliminates_2 : decode cX1_eliminates 2 = .ok (.iconst 0, 1) := by decide +kernel
theorem dX1_eliminates_3 : decode cX1_eliminates 3 = .ok (.istore_n 3, 1) := by decide +kernel
theorem dX1_eliminates_4 : decode cX1_eliminates 4 = .ok (.iload_n 3, 1) := by decide +kernel
theorem dX1_eliminates_5 : decode cX1_eliminates 5 = .ok (.aload_n 0, 1) := by decide +kernel
theorem dX1_eliminates_6 : decode cX1_eliminates 6 = .ok (.getfield 35, 3) := by decide +kernel
theorem dX1_eliminates_9 : decode cX1_eliminates 9 = .ok (.if_icmp .ge 76, 3) := by decide +kernel
theorem dX1_eliminates_12 : decode cX1_eliminates 12 = .ok (.aload_n 0, 1) := by decide +kernel
theorem dX1_eliminates_13 : decode cX1_eliminates 13 = .ok (.iload_n 3, 1) := by decide +kernel
theorem dX1_eliminates_14 : decode cX1_eliminates 14 = .ok (.invokevirtual 46, 3) := by decide +kernel
theorem dX1_eliminates_17 : decode cX1_eliminates 17 = .ok (.iload_n 1, 1) := by decide +kernel
theorem dX1_eliminates_18 : decode cX1_eliminates 18 = .ok (.if_icmp .ne 7, 3) := by decide +kernel
theorem dX1_eliminates_21 : decode cX1_eliminates 21 = .ok (.iconst 1, 1) := by decide +kernel
theorem dX1_eliminates_22 : decode cX1_eliminates 22 = .ok (.goto 4, 3) := by decide +kernel
theorem dX1_eliminates_25 : decode cX1_eliminates 25 = .ok (.iconst 0, 1) := by decide +kernel
theorem dX1_eliminates_26 : decode cX1_eliminates 26 = .ok (.istore 4, 2) := by decide +kernel
theorem dX1_eliminates_28 : decode cX1_eliminates 28 = .ok (.aload_n 0, 1) := by decide +kernel
theorem dX1_eliminates_29 : decode cX1_eliminates 29 = .ok (.getfield 19, 3) := by decide +kernel
theorem dX1_eliminates_32 : decode cX1_eliminates 32 = .ok (.iload_n 3, 1) := by decide +kernel
theorem dX1_eliminates_33 : decode cX1_eliminates 33 = .ok (.iload 4, 2) := by decide +kernel
theorem dX1_eliminates_35 : decode cX1_eliminates 35 = .ok (.ifCond .eq 11, 3) := by decide +kernel
theorem dX1_eliminates_38 : decode cX1_eliminates 38 = .ok (.aload_n 0, 1) := by decide +kernel
theorem dX1_eliminates_39 : decode cX1_eliminates 39 = .ok (.iload_n 3, 1) := by decide +kernel
theorem dX1_eliminates_40 : decode cX1_eliminates 40 = .ok (.invokevirtual 101, 3) := by decide +kernel
theorem dX1_eliminates_43 : decode cX1_eliminates 43 = .ok (.goto 8, 3) := by decide +kernel
theorem dX1_eliminates_46 : decode cX1_eliminates 46 = .ok (.aload_n 0, 1) := by decide +kernel
theorem dX1_eliminates_47 : decode cX1_eliminates 47 = .ok (.iload_n 3, 1) := by decide +kernel
theorem dX1_eliminates_48 : decode cX1_eliminates 48 = .ok (.invokevirtual 46, 3) := by decide +kernel
theorem dX1_eliminates_51 : decode cX1_eliminates 51 = .ok (.iastore, 1) := by decide +kernel
theorem dX1_eliminates_52 : decode cX1_eliminates 52 = .ok (.iload_n 2, 1) := by decide +kernel
theorem dX1_eliminates_53 : decode cX1_eliminates 53 = .ok (.iload 4, 2) := by decide +kernel
theorem dX1_eliminates_55 : decode cX1_eliminates 55 = .ok (.ifCond .eq 7, 3) := by decide +kernel
theorem dX1_eliminates_58 : decode cX1_eliminates 58 = .ok (.iconst 1, 1) := by decide +kernel
theorem dX1_eliminates_59 : decode cX1_eliminates 59 = .ok (.goto 4, 3) := by decide +kernel
theorem dX1_eliminates_62 : decode cX1_eliminates 62 = .ok (.iconst 0, 1) := by decide +kernel
theorem dX1_eliminates_63 : decode cX1_eliminates 63 = .ok (.iadd, 1) := by decide +kernel
theorem dX1_eliminates_64 : decode cX1_eliminates 64 = .ok (.istore_n 2, 1) := by decide +kernel
theorem dX1_eliminates_65 : decode cX1_eliminates 65 = .ok (.aload_n 0, 1) := by decide +kernel
theorem dX1_eliminates_66 : decode cX1_eliminates 66 = .ok (.getfield 19, 3) := by decide +kernel
theorem dX1_eliminates_69 : decode cX1_eliminates 69 = .ok (.iload_n 3, 1) := by decide +kernel
theorem dX1_eliminates_70 : decode cX1_eliminates 70 = .ok (.iaload, 1) := by decide +kernel
theorem dX1_eliminates_71 : decode cX1_eliminates 71 = .ok (.bipush (-7), 2) := by decide +kernel
theorem dX1_eliminates_73 : decode cX1_eliminates 73 = .ok (.if_icmp .ne 6, 3) := by decide +kernel
theorem dX1_eliminates_76 : decode cX1_eliminates 76 = .ok (.bipush (-6), 2) := by decide +kernel
theorem dX1_eliminates_78 : decode cX1_eliminates 78 = .ok (.ireturn, 1) := by decide +kernel
theorem dX1_eliminates_79 : decode cX1_eliminates 79 = .ok (.iinc 3 1, 3) := by decide +kernel
theorem dX1_eliminates_82 : decode cX1_eliminates 82 = .ok (.goto (-78), 3) := by decide +kernel
theorem dX1_eliminates_85 : decode cX1_eliminates 85 = .ok (.aload_n 0, 1) := by decide +kernel
theorem dX1_eliminates_86 : decode cX1_eliminates 86 = .ok (.invokevirtual 95, 3) := by decide +kernel
theorem dX1_eliminates_89 : decode cX1_eliminates 89 = .ok (.iload_n 2, 1) := by decide +kernel
theorem dX1_eliminates_90 : decode cX1_eliminates 90 = .ok (.ireturn, 1) := by decide +kernel
theorem dX1_eliminate_0 : decode cX1_eliminate 0 = .ok (.iload_n 1, 1) := by decide +kernel
theorem dX1_eliminate_1 : decode cX1_eliminate 1 = .ok (.iconst 3, 1) := by decide +kernel
theorem dX1_eliminate_2 : decode cX1_eliminate 2 = .ok (.ldc 50, 2) := by decide +kernel
theorem dX1_eliminate_4 : decode cX1_eliminate 4 = .ok (.invokestatic 39, 3) := by decide +kernel
theorem dX1_eliminate_7 : decode cX1_eliminate 7 = .ok (.ifCond .ne 6, 3) := by decide +kernel
theorem dX1_eliminate_10 : decode cX1_eliminate 10 = .ok (.bipush (-2), 2) := by decide +kernel
theorem dX1_eliminate_12 : decode cX1_eliminate 12 = .ok (.ireturn, 1) := by decide +kernel
theorem dX1_eliminate_13 : decode cX1_eliminate 13 = .ok (.aload_n 0, 1) := by decide +kernel
theorem dX1_eliminate_14 : decode cX1_eliminate 14 = .ok (.invokevirtual 89, 3) := by decide +kernel
theorem dX1_eliminate_17 : decode cX1_eliminate 17 = .ok (.ifCond .le 8, 3) := by decide +kernel
theorem dX1_eliminate_20 : decode cX1_eliminate 20 = .ok (.bipush (-5), 2) := by decide +kernel
theorem dX1_eliminate_22 : decode cX1_eliminate 22 = .ok (.goto 8, 3) := by decide +kernel
theorem dX1_eliminate_25 : decode cX1_eliminate 25 = .ok (.aload_n 0, 1) := by decide +kernel
theorem dX1_eliminate_26 : decode cX1_eliminate 26 = .ok (.iload_n 1, 1) := by decide +kernel
theorem dX1_eliminate_27 : decode cX1_eliminate 27 = .ok (.invokevirtual 104, 3) := by decide +kernel
theorem dX1_eliminate_30 : decode cX1_eliminate 30 = .ok (.ireturn, 1) := by decide +kernel
theorem dX1_reduceToThree_0 : decode cX1_reduceToThree 0 = .ok (.aload_n 0, 1) := by decide +kernel
theorem dX1_reduceToThree_1 : decode cX1_reduceToThree 1 = .ok (.invokevirtual 89, 3) := by decide +kernel
theorem dX1_reduceToThree_4 : decode cX1_reduceToThree 4 = .ok (.ifCond .le 6, 3) := by decide +kernel
theorem dX1_reduceToThree_7 : decode cX1_reduceToThree 7 = .ok (.bipush (-5), 2) := by decide +kernel
theorem dX1_reduceToThree_9 : decode cX1_reduceToThree 9 = .ok (.ireturn, 1) := by decide +kernel
theorem dX1_reduceToThree_10 : decode cX1_reduceToThree 10 = .ok (.aload_n 0, 1) := by decide +kernel
theorem dX1_reduceToThree_11 : decode cX1_reduceToThree 11 = .ok (.getfield 43, 3) := by decide +kernel
theorem dX1_reduceToThree_14 : decode cX1_reduceToThree 14 = .ok (.istore_n 1, 1) := by decide +kernel
theorem dX1_reduceToThree_15 : decode cX1_reduceToThree 15 = .ok (.aload_n 0, 1) := by decide +kernel
theorem dX1_reduceToThree_16 : decode cX1_reduceToThree 16 = .ok (.invokevirtual 82, 3) := by decide +kernel
theorem dX1_reduceToThree_19 : decode cX1_reduceToThree 19 = .ok (.iconst 5, 1) := by decide +kernel
theorem dX1_reduceToThree_20 : decode cX1_reduceToThree 20 = .ok (.if_icmp .le 10, 3) := by decide +kernel
theorem dX1_reduceToThree_23 : decode cX1_reduceToThree 23 = .ok (.aload_n 0, 1) := by decide +kernel
theorem dX1_reduceToThree_24 : decode cX1_reduceToThree 24 = .ok (.invokevirtual 98, 3) := by decide +kernel
theorem dX1_reduceToThree_27 : decode cX1_reduceToThree 27 = .ok (.goto (-12), 3) := by decide +kernel
theorem dX1_reduceToThree_30 : decode cX1_reduceToThree 30 = .ok (.iconst 5, 1) := by decide +kernel
theorem dX1_reduceToThree_31 : decode cX1_reduceToThree 31 = .ok (.istore_n 2, 1) := by decide +kernel
theorem dX1_reduceToThree_32 : decode cX1_reduceToThree 32 = .ok (.iload_n 2, 1) := by decide +kernel
theorem dX1_reduceToThree_33 : decode cX1_reduceToThree 33 = .ok (.iconst 2, 1) := by decide +kernel
theorem dX1_reduceToThree_34 : decode cX1_reduceToThree 34 = .ok (.if_icmp .le 20, 3) := by decide +kernel
theorem dX1_reduceToThree_37 : decode cX1_reduceToThree 37 = .ok (.aload_n 0, 1) := by decide +kernel
theorem dX1_reduceToThree_38 : decode cX1_reduceToThree 38 = .ok (.invokevirtual 107, 3) := by decide +kernel
theorem dX1_reduceToThree_41 : decode cX1_reduceToThree 41 = .ok (.pop, 1) := by decide +kernel
theorem dX1_reduceToThree_42 : decode cX1_reduceToThree 42 = .ok (.aload_n 0, 1) := by decide +kernel
theorem dX1_reduceToThree_43 : decode cX1_reduceToThree 43 = .ok (.iload_n 2, 1) := by decide +kernel
theorem dX1_reduceToThree_44 : decode cX1_reduceToThree 44 = .ok (.invokevirtual 104, 3) := by decide +kernel
theorem dX1_reduceToThree_47 : decode cX1_reduceToThree 47 = .ok (.pop, 1) := by decide +kernel
theorem dX1_reduceToThree_48 : decode cX1_reduceToThree 48 = .ok (.iinc 2 (-1), 3) := by decide +kernel
theorem dX1_reduceToThree_51 : decode cX1_reduceToThree 51 = .ok (.goto (-19), 3) := by decide +kernel
theorem dX1_reduceToThree_54 : decode cX1_reduceToThree 54 = .ok (.aload_n 0, 1) := by decide +kernel
theorem dX1_reduceToThree_55 : decode cX1_reduceToThree 55 = .ok (.getfield 43, 3) := by decide +kernel
theorem dX1_reduceToThree_58 : decode cX1_reduceToThree 58 = .ok (.iload_n 1, 1) := by decide +kernel
theorem dX1_reduceToThree_59 : decode cX1_reduceToThree 59 = .ok (.isub, 1) := by decide +kernel
theorem dX1_reduceToThree_60 : decode cX1_reduceToThree 60 = .ok (.ireturn, 1) := by decide +kernel
theorem dX1_roundCount_0 : decode cX1_roundCount 0 = .ok (.aload_n 0, 1) := by decide +kernel
theorem dX1_roundCount_1 : decode cX1_roundCount 1 = .ok (.getfield 43, 3) := by decide +kernel
theorem dX1_roundCount_4 : decode cX1_roundCount 4 = .ok (.ireturn, 1) := by decide +kernel
theorem dX1_pastColour_0 : decode cX1_pastColour 0 = .ok (.aload_n 0, 1) := by decide +kernel
theorem dX1_pastColour_1 : decode cX1_pastColour 1 = .ok (.iload_n 1, 1) := by decide +kernel
theorem dX1_pastColour_2 : decode cX1_pastColour 2 = .ok (.invokevirtual 58, 3) := by decide +kernel
theorem dX1_pastColour_5 : decode cX1_pastColour 5 = .ok (.ifCond .ne 5, 3) := by decide +kernel
theorem dX1_pastColour_8 : decode cX1_pastColour 8 = .ok (.iconst (-1), 1) := by decide +kernel
theorem dX1_pastColour_9 : decode cX1_pastColour 9 = .ok (.ireturn, 1) := by decide +kernel
theorem dX1_pastColour_10 : decode cX1_pastColour 10 = .ok (.iload_n 2, 1) := by decide +kernel
theorem dX1_pastColour_11 : decode cX1_pastColour 11 = .ok (.iconst 0, 1) := by decide +kernel
theorem dX1_pastColour_12 : decode cX1_pastColour 12 = .ok (.bipush 16, 2) := by decide +kernel
theorem dX1_pastColour_14 : decode cX1_pastColour 14 = .ok (.invokestatic 39, 3) := by decide +kernel
theorem dX1_pastColour_17 : decode cX1_pastColour 17 = .ok (.ifCond .ne 6, 3) := by decide +kernel
theorem dX1_pastColour_20 : decode cX1_pastColour 20 = .ok (.bipush (-2), 2) := by decide +kernel
theorem dX1_pastColour_22 : decode cX1_pastColour 22 = .ok (.ireturn, 1) := by decide +kernel
theorem dX1_pastColour_23 : decode cX1_pastColour 23 = .ok (.iload_n 2, 1) := by decide +kernel
theorem dX1_pastColour_24 : decode cX1_pastColour 24 = .ok (.aload_n 0, 1) := by decide +kernel
theorem dX1_pastColour_25 : decode cX1_pastColour 25 = .ok (.getfield 43, 3) := by decide +kernel
theorem dX1_pastColour_28 : decode cX1_pastColour 28 = .ok (.if_icmp .le 8, 3) := by decide +kernel
theorem dX1_pastColour_31 : decode cX1_pastColour 31 = .ok (.bipush (-7), 2) := by decide +kernel
theorem dX1_pastColour_33 : decode cX1_pastColour 33 = .ok (.goto 22, 3) := by decide +kernel
theorem dX1_pastColour_36 : decode cX1_pastColour 36 = .ok (.aload_n 0, 1) := by decide +kernel
theorem dX1_pastColour_37 : decode cX1_pastColour 37 = .ok (.getfield 16, 3) := by decide +kernel
theorem dX1_pastColour_40 : decode cX1_pastColour 40 = .ok (.bipush 24, 2) := by decide +kernel
theorem dX1_pastColour_42 : decode cX1_pastColour 42 = .ok (.aload_n 0, 1) := by decide +kernel
theorem dX1_pastColour_43 : decode cX1_pastColour 43 = .ok (.getfield 43, 3) := by decide +kernel
theorem dX1_pastColour_46 : decode cX1_pastColour 46 = .ok (.iload_n 2, 1) := by decide +kernel
theorem dX1_pastColour_47 : decode cX1_pastColour 47 = .ok (.isub, 1) := by decide +kernel
theorem dX1_pastColour_48 : decode cX1_pastColour 48 = .ok (.bipush 17, 2) := by decide +kernel
theorem dX1_pastColour_50 : decode cX1_pastColour 50 = .ok (.irem, 1) := by decide +kernel
theorem dX1_pastColour_51 : decode cX1_pastColour 51 = .ok (.imul, 1) := by decide +kernel
theorem dX1_pastColour_52 : decode cX1_pastColour 52 = .ok (.iload_n 1, 1) := by decide +kernel
theorem dX1_pastColour_53 : decode cX1_pastColour 53 = .ok (.iadd, 1) := by decide +kernel
theorem dX1_pastColour_54 : decode cX1_pastColour 54 = .ok (.iaload, 1) := by decide +kernel
theorem dX1_pastColour_55 : decode cX1_pastColour 55 = .ok (.ireturn, 1) := by decide +kernel
theorem dX1_buildSet_0 : decode cX1_buildSet 0 = .ok (.iconst 0, 1) := by decide +kernel
theorem dX1_buildSet_1 : decode cX1_buildSet 1 = .ok (.istore_n 1, 1) := by decide +kernel
theorem dX1_buildSet_2 : decode cX1_buildSet 2 = .ok (.iconst 0, 1) := by decide +kernel
theorem dX1_buildSet_3 : decode cX1_buildSet 3 = .ok (.istore_n 2, 1) := by decide +kernel
theorem dX1_buildSet_4 : decode cX1_buildSet 4 = .ok (.iload_n 2, 1) := by decide +kernel
theorem dX1_buildSet_5 : decode cX1_buildSet 5 = .ok (.aload_n 0, 1) := by decide +kernel
theorem dX1_buildSet_6 : decode cX1_buildSet 6 = .ok (.getfield 35, 3) := by decide +kernel
theorem dX1_buildSet_9 : decode cX1_buildSet 9 = .ok (.if_icmp .ge 16, 3) := by decide +kernel
theorem dX1_buildSet_12 : decode cX1_buildSet 12 = .ok (.aload_n 0, 1) := by decide +kernel
theorem dX1_buildSet_13 : decode cX1_buildSet 13 = .ok (.getfield 22, 3) := by decide +kernel
theorem dX1_buildSet_16 : decode cX1_buildSet 16 = .ok (.iload_n 2, 1) := by decide +kernel
theorem dX1_buildSet_17 : decode cX1_buildSet 17 = .ok (.iconst 0, 1) := by decide +kernel
theorem dX1_buildSet_18 : decode cX1_buildSet 18 = .ok (.bastore, 1) := by decide +kernel
theorem dX1_buildSet_19 : decode cX1_buildSet 19 = .ok (.iinc 2 1, 3) := by decide +kernel
theorem dX1_buildSet_22 : decode cX1_buildSet 22 = .ok (.goto (-18), 3) := by decide +kernel
theorem dX1_buildSet_25 : decode cX1_buildSet 25 = .ok (.iconst (-1), 1) := by decide +kernel
theorem dX1_buildSet_26 : decode cX1_buildSet 26 = .ok (.istore_n 2, 1) := by decide +kernel
theorem dX1_buildSet_27 : decode cX1_buildSet 27 = .ok (.bipush 24, 2) := by decide +kernel
theorem dX1_buildSet_29 : decode cX1_buildSet 29 = .ok (.istore_n 3, 1) := by decide +kernel
theorem dX1_buildSet_30 : decode cX1_buildSet 30 = .ok (.iconst 0, 1) := by decide +kernel
theorem dX1_buildSet_31 : decode cX1_buildSet 31 = .ok (.istore 4, 2) := by decide +kernel
theorem dX1_buildSet_33 : decode cX1_buildSet 33 = .ok (.iload 4, 2) := by decide +kernel
theorem dX1_buildSet_35 : decode cX1_buildSet 35 = .ok (.aload_n 0, 1) := by decide +kernel
theorem dX1_buildSet_36 : decode cX1_buildSet 36 = .ok (.getfield 35, 3) := by decide +kernel
theorem dX1_buildSet_39 : decode cX1_buildSet 39 = .ok (.if_icmp .ge 186, 3) := by decide +kernel
theorem dX1_buildSet_42 : decode cX1_buildSet 42 = .ok (.bipush (-7), 2) := by decide +kernel
theorem dX1_buildSet_44 : decode cX1_buildSet 44 = .ok (.istore 5, 2) := by decide +kernel
theorem dX1_buildSet_46 : decode cX1_buildSet 46 = .ok (.iconst 0, 1) := by decide +kernel
theorem dX1_buildSet_47 : decode cX1_buildSet 47 = .ok (.istore 6, 2) := by decide +kernel
theorem dX1_buildSet_49 : decode cX1_buildSet 49 = .ok (.iload 6, 2) := by decide +kernel
theorem dX1_buildSet_51 : decode cX1_buildSet 51 = .ok (.aload_n 0, 1) := by decide +kernel
theorem dX1_buildSet_52 : decode cX1_buildSet 52 = .ok (.getfield 35, 3) := by decide +kernel
theorem dX1_buildSet_55 : decode cX1_buildSet 55 = .ok (.if_icmp .ge 78, 3) := by decide +kernel
theorem dX1_buildSet_58 : decode cX1_buildSet 58 = .ok (.aload_n 0, 1) := by decide +kernel
theorem dX1_buildSet_59 : decode cX1_buildSet 59 = .ok (.iload 6, 2) := by decide +kernel
theorem dX1_buildSet_61 : decode cX1_buildSet 61 = .ok (.invokevirtual 46, 3) := by decide +kernel
theorem dX1_buildSet_64 : decode cX1_buildSet 64 = .ok (.iload_n 2, 1) := by decide +kernel
theorem dX1_buildSet_65 : decode cX1_buildSet 65 = .ok (.if_icmp .gt 19, 3) := by decide +kernel
theorem dX1_buildSet_68 : decode cX1_buildSet 68 = .ok (.aload_n 0, 1) := by decide +kernel
theorem dX1_buildSet_69 : decode cX1_buildSet 69 = .ok (.iload 6, 2) := by decide +kernel
theorem dX1_buildSet_71 : decode cX1_buildSet 71 = .ok (.invokevirtual 46, 3) := by decide +kernel
theorem dX1_buildSet_74 : decode cX1_buildSet 74 = .ok (.iload_n 2, 1) := by decide +kernel
theorem dX1_buildSet_75 : decode cX1_buildSet 75 = .ok (.if_icmp .ne 13, 3) := by decide +kernel
theorem dX1_buildSet_78 : decode cX1_buildSet 78 = .ok (.iload 6, 2) := by decide +kernel
theorem dX1_buildSet_80 : decode cX1_buildSet 80 = .ok (.iload_n 3, 1) := by decide +kernel
theorem dX1_buildSet_81 : decode cX1_buildSet 81 = .ok (.if_icmp .le 7, 3) := by decide +kernel
theorem dX1_buildSet_84 : decode cX1_buildSet 84 = .ok (.iconst 1, 1) := by decide +kernel
theorem dX1_buildSet_85 : decode cX1_buildSet 85 = .ok (.goto 4, 3) := by decide +kernel
theorem dX1_buildSet_88 : decode cX1_buildSet 88 = .ok (.iconst 0, 1) := by decide +kernel
theorem dX1_buildSet_89 : decode cX1_buildSet 89 = .ok (.istore 7, 2) := by decide +kernel
theorem dX1_buildSet_91 : decode cX1_buildSet 91 = .ok (.iload 7, 2) := by decide +kernel
theorem dX1_buildSet_93 : decode cX1_buildSet 93 = .ok (.ifCond .eq 30, 3) := by decide +kernel
theorem dX1_buildSet_96 : decode cX1_buildSet 96 = .ok (.iload 5, 2) := by decide +kernel
theorem dX1_buildSet_98 : decode cX1_buildSet 98 = .ok (.bipush (-7), 2) := by decide +kernel
theorem dX1_buildSet_100 : decode cX1_buildSet 100 = .ok (.if_icmp .eq 18, 3) := by decide +kernel
theorem dX1_buildSet_103 : decode cX1_buildSet 103 = .ok (.aload_n 0, 1) := by decide +kernel
theorem dX1_buildSet_104 : decode cX1_buildSet 104 = .ok (.iload 6, 2) := by decide +kernel
theorem dX1_buildSet_106 : decode cX1_buildSet 106 = .ok (.invokevirtual 46, 3) := by decide +kernel
theorem dX1_buildSet_109 : decode cX1_buildSet 109 = .ok (.aload_n 0, 1) := by decide +kernel
theorem dX1_buildSet_110 : decode cX1_buildSet 110 = .ok (.iload 5, 2) := by decide +kernel
theorem dX1_buildSet_112 : decode cX1_buildSet 112 = .ok (.invokevirtual 46, 3) := by decide +kernel
theorem dX1_buildSet_115 : decode cX1_buildSet 115 = .ok (.if_icmp .ge 8, 3) := by decide +kernel
theorem dX1_buildSet_118 : decode cX1_buildSet 118 = .ok (.iload 6, 2) := by decide +kernel
theorem dX1_buildSet_120 : decode cX1_buildSet 120 = .ok (.goto 5, 3) := by decide +kernel
theorem dX1_buildSet_123 : decode cX1_buildSet 123 = .ok (.iload 5, 2) := by decide +kernel
theorem dX1_buildSet_125 : decode cX1_buildSet 125 = .ok (.istore 5, 2) := by decide +kernel
theorem dX1_buildSet_127 : decode cX1_buildSet 127 = .ok (.iinc 6 1, 3) := by decide +kernel
theorem dX1_buildSet_130 : decode cX1_buildSet 130 = .ok (.goto (-81), 3) := by decide +kernel
theorem dX1_buildSet_133 : decode cX1_buildSet 133 = .ok (.aload_n 0, 1) := by decide +kernel
theorem dX1_buildSet_134 : decode cX1_buildSet 134 = .ok (.iload 5, 2) := by decide +kernel
theorem dX1_buildSet_136 : decode cX1_buildSet 136 = .ok (.invokevirtual 46, 3) := by decide +kernel
theorem dX1_buildSet_139 : decode cX1_buildSet 139 = .ok (.istore_n 2, 1) := by decide +kernel
theorem dX1_buildSet_140 : decode cX1_buildSet 140 = .ok (.iload 5, 2) := by decide +kernel
theorem dX1_buildSet_142 : decode cX1_buildSet 142 = .ok (.istore_n 3, 1) := by decide +kernel
theorem dX1_buildSet_143 : decode cX1_buildSet 143 = .ok (.iconst 1, 1) := by decide +kernel
theorem dX1_buildSet_144 : decode cX1_buildSet 144 = .ok (.istore 6, 2) := by decide +kernel
theorem dX1_buildSet_146 : decode cX1_buildSet 146 = .ok (.iconst 0, 1) := by decide +kernel
theorem dX1_buildSet_147 : decode cX1_buildSet 147 = .ok (.istore 7, 2) := by decide +kernel
theorem dX1_buildSet_149 : decode cX1_buildSet 149 = .ok (.iload 7, 2) := by decide +kernel
theorem dX1_buildSet_151 : decode cX1_buildSet 151 = .ok (.aload_n 0, 1) := by decide +kernel
theorem dX1_buildSet_152 : decode cX1_buildSet 152 = .ok (.getfield 35, 3) := by decide +kernel
theorem dX1_buildSet_155 : decode cX1_buildSet 155 = .ok (.if_icmp .ge 42, 3) := by decide +kernel
theorem dX1_buildSet_158 : decode cX1_buildSet 158 = .ok (.iload 6, 2) := by decide +kernel
theorem dX1_buildSet_160 : decode cX1_buildSet 160 = .ok (.ifCond .eq 28, 3) := by decide +kernel
theorem dX1_buildSet_163 : decode cX1_buildSet 163 = .ok (.aload_n 0, 1) := by decide +kernel
theorem dX1_buildSet_164 : decode cX1_buildSet 164 = .ok (.getfield 22, 3) := by decide +kernel
theorem dX1_buildSet_167 : decode cX1_buildSet 167 = .ok (.iload 7, 2) := by decide +kernel
theorem dX1_buildSet_169 : decode cX1_buildSet 169 = .ok (.baload, 1) := by decide +kernel
theorem dX1_buildSet_170 : decode cX1_buildSet 170 = .ok (.ifCond .eq 14, 3) := by decide +kernel
theorem dX1_buildSet_173 : decode cX1_buildSet 173 = .ok (.aload_n 0, 1) := by decide +kernel
theorem dX1_buildSet_174 : decode cX1_buildSet 174 = .ok (.iload 5, 2) := by decide +kernel
theorem dX1_buildSet_176 : decode cX1_buildSet 176 = .ok (.iload 7, 2) := by decide +kernel
theorem dX1_buildSet_178 : decode cX1_buildSet 178 = .ok (.invokevirtual 66, 3) := by decide +kernel
theorem dX1_buildSet_181 : decode cX1_buildSet 181 = .ok (.ifCond .ne 7, 3) := by decide +kernel
theorem dX1_buildSet_184 : decode cX1_buildSet 184 = .ok (.iconst 1, 1) := by decide +kernel
theorem dX1_buildSet_185 : decode cX1_buildSet 185 = .ok (.goto 4, 3) := by decide +kernel
theorem dX1_buildSet_188 : decode cX1_buildSet 188 = .ok (.iconst 0, 1) := by decide +kernel
theorem dX1_buildSet_189 : decode cX1_buildSet 189 = .ok (.istore 6, 2) := by decide +kernel
theorem dX1_buildSet_191 : decode cX1_buildSet 191 = .ok (.iinc 7 1, 3) := by decide +kernel
theorem dX1_buildSet_194 : decode cX1_buildSet 194 = .ok (.goto (-45), 3) := by decide +kernel
theorem dX1_buildSet_197 : decode cX1_buildSet 197 = .ok (.aload_n 0, 1) := by decide +kernel
theorem dX1_buildSet_198 : decode cX1_buildSet 198 = .ok (.getfield 22, 3) := by decide +kernel
theorem dX1_buildSet_201 : decode cX1_buildSet 201 = .ok (.iload 5, 2) := by decide +kernel
theorem dX1_buildSet_203 : decode cX1_buildSet 203 = .ok (.iload 6, 2) := by decide +kernel
theorem dX1_buildSet_205 : decode cX1_buildSet 205 = .ok (.bastore, 1) := by decide +kernel
theorem dX1_buildSet_206 : decode cX1_buildSet 206 = .ok (.iload_n 1, 1) := by decide +kernel
theorem dX1_buildSet_207 : decode cX1_buildSet 207 = .ok (.iload 6, 2) := by decide +kernel
theorem dX1_buildSet_209 : decode cX1_buildSet 209 = .ok (.ifCond .eq 7, 3) := by decide +kernel
theorem dX1_buildSet_212 : decode cX1_buildSet 212 = .ok (.iconst 1, 1) := by decide +kernel
theorem dX1_buildSet_213 : decode cX1_buildSet 213 = .ok (.goto 4, 3) := by decide +kernel
theorem dX1_buildSet_216 : decode cX1_buildSet 216 = .ok (.iconst 0, 1) := by decide +kernel
theorem dX1_buildSet_217 : decode cX1_buildSet 217 = .ok (.iadd, 1) := by decide +kernel
theorem dX1_buildSet_218 : decode cX1_buildSet 218 = .ok (.istore_n 1, 1) := by decide +kernel
theorem dX1_buildSet_219 : decode cX1_buildSet 219 = .ok (.iinc 4 1, 3) := by decide +kernel
theorem dX1_buildSet_222 : decode cX1_buildSet 222 = .ok (.goto (-189), 3) := by decide +kernel
theorem dX1_buildSet_225 : decode cX1_buildSet 225 = .ok (.iload_n 1, 1) := by decide +kernel
theorem dX1_buildSet_226 : decode cX1_buildSet 226 = .ok (.ireturn, 1) := by decide +kernel
theorem dX1_inIndependentSet_0 : decode cX1_inIndependentSet 0 = .ok (.aload_n 0, 1) := by decide +kernel
theorem dX1_inIndependentSet_1 : decode cX1_inIndependentSet 1 = .ok (.iload_n 1, 1) := by decide +kernel
theorem dX1_inIndependentSet_2 : decode cX1_inIndependentSet 2 = .ok (.invokevirtual 58, 3) := by decide +kernel
theorem dX1_inIndependentSet_5 : decode cX1_inIndependentSet 5 = .ok (.ifCond .ne 5, 3) := by decide +kernel
theorem dX1_inIndependentSet_8 : decode cX1_inIndependentSet 8 = .ok (.iconst (-1), 1) := by decide +kernel
theorem dX1_inIndependentSet_9 : decode cX1_inIndependentSet 9 = .ok (.ireturn, 1) := by decide +kernel
theorem dX1_inIndependentSet_10 : decode cX1_inIndependentSet 10 = .ok (.aload_n 0, 1) := by decide +kernel
theorem dX1_inIndependentSet_11 : decode cX1_inIndependentSet 11 = .ok (.invokevirtual 89, 3) := by decide +kernel
theorem dX1_inIndependentSet_14 : decode cX1_inIndependentSet 14 = .ok (.ifCond .le 6, 3) := by decide +kernel
theorem dX1_inIndependentSet_17 : decode cX1_inIndependentSet 17 = .ok (.bipush (-5), 2) := by decide +kernel
theorem dX1_inIndependentSet_19 : decode cX1_inIndependentSet 19 = .ok (.ireturn, 1) := by decide +kernel
theorem dX1_inIndependentSet_20 : decode cX1_inIndependentSet 20 = .ok (.aload_n 0, 1) := by decide +kernel
theorem dX1_inIndependentSet_21 : decode cX1_inIndependentSet 21 = .ok (.invokevirtual 110, 3) := by decide +kernel
theorem dX1_inIndependentSet_24 : decode cX1_inIndependentSet 24 = .ok (.pop, 1) := by decide +kernel
theorem dX1_inIndependentSet_25 : decode cX1_inIndependentSet 25 = .ok (.aload_n 0, 1) := by decide +kernel
theorem dX1_inIndependentSet_26 : decode cX1_inIndependentSet 26 = .ok (.getfield 22, 3) := by decide +kernel
theorem dX1_inIndependentSet_29 : decode cX1_inIndependentSet 29 = .ok (.iload_n 1, 1) := by decide +kernel
theorem dX1_inIndependentSet_30 : decode cX1_inIndependentSet 30 = .ok (.baload, 1) := by decide +kernel
theorem dX1_inIndependentSet_31 : decode cX1_inIndependentSet 31 = .ok (.ifCond .eq 7, 3) := by decide +kernel
theorem dX1_inIndependentSet_34 : decode cX1_inIndependentSet 34 = .ok (.iconst 1, 1) := by decide +kernel
theorem dX1_inIndependentSet_35 : decode cX1_inIndependentSet 35 = .ok (.goto 4, 3) := by decide +kernel
theorem dX1_inIndependentSet_38 : decode cX1_inIndependentSet 38 = .ok (.iconst 0, 1) := by decide +kernel
theorem dX1_inIndependentSet_39 : decode cX1_inIndependentSet 39 = .ok (.ireturn, 1) := by decide +kernel
theorem dX1_independentSetSize_0 : decode cX1_independentSetSize 0 = .ok (.aload_n 0, 1) := by decide +kernel
theorem dX1_independentSetSize_1 : decode cX1_independentSetSize 1 = .ok (.invokevirtual 89, 3) := by decide +kernel
theorem dX1_independentSetSize_4 : decode cX1_independentSetSize 4 = .ok (.ifCond .le 8, 3) := by decide +kernel
theorem dX1_independentSetSize_7 : decode cX1_independentSetSize 7 = .ok (.bipush (-5), 2) := by decide +kernel
theorem dX1_independentSetSize_9 : decode cX1_independentSetSize 9 = .ok (.goto 7, 3) := by decide +kernel
theorem dX1_independentSetSize_12 : decode cX1_independentSetSize 12 = .ok (.aload_n 0, 1) := by decide +kernel
theorem dX1_independentSetSize_13 : decode cX1_independentSetSize 13 = .ok (.invokevirtual 110, 3) := by decide +kernel
theorem dX1_independentSetSize_16 : decode cX1_independentSetSize 16 = .ok (.ireturn, 1) := by decide +kernel
theorem dX1_greater_0 : decode cX1_greater 0 = .ok (.iload_n 0, 1) := by decide +kernel
theorem dX1_greater_1 : decode cX1_greater 1 = .ok (.iload_n 1, 1) := by decide +kernel
theorem dX1_greater_2 : decode cX1_greater 2 = .ok (.if_icmp .le 7, 3) := by decide +kernel
theorem dX1_greater_5 : decode cX1_greater 5 = .ok (.iload_n 0, 1) := by decide +kernel
theorem dX1_greater_6 : decode cX1_greater 6 = .ok (.goto 4, 3) := by decide +kernel
theorem dX1_greater_9 : decode cX1_greater 9 = .ok (.iload_n 1, 1) := by decide +kernel
theorem dX1_greater_10 : decode cX1_greater 10 = .ok (.ireturn, 1) := by decide +kernel
theorem dX1_takesTrees_0 : decode cX1_takesTrees 0 = .ok (.iconst 0, 1) := by decide +kernel
theorem dX1_takesTrees_1 : decode cX1_takesTrees 1 = .ok (.istore_n 1, 1) := by decide +kernel
theorem dX1_takesTrees_2 : decode cX1_takesTrees 2 = .ok (.iload_n 1, 1) := by decide +kernel
theorem dX1_takesTrees_3 : decode cX1_takesTrees 3 = .ok (.aload_n 0, 1) := by decide +kernel
theorem dX1_takesTrees_4 : decode cX1_takesTrees 4 = .ok (.getfield 35, 3) := by decide +kernel
theorem dX1_takesTrees_7 : decode cX1_takesTrees 7 = .ok (.if_icmp .ge 30, 3) := by decide +kernel
theorem dX1_takesTrees_10 : decode cX1_takesTrees 10 = .ok (.aload_n 0, 1) := by decide +kernel
theorem dX1_takesTrees_11 : decode cX1_takesTrees 11 = .ok (.getfield 26, 3) := by decide +kernel
theorem dX1_takesTrees_14 : decode cX1_takesTrees 14 = .ok (.iload_n 1, 1) := by decide +kernel
theorem dX1_takesTrees_15 : decode cX1_takesTrees 15 = .ok (.iconst 1, 1) := by decide +kernel
theorem dX1_takesTrees_16 : decode cX1_takesTrees 16 = .ok (.iastore, 1) := by decide +kernel
theorem dX1_takesTrees_17 : decode cX1_takesTrees 17 = .ok (.aload_n 0, 1) := by decide +kernel
theorem dX1_takesTrees_18 : decode cX1_takesTrees 18 = .ok (.getfield 29, 3) := by decide +kernel
theorem dX1_takesTrees_21 : decode cX1_takesTrees 21 = .ok (.iload_n 1, 1) := by decide +kernel
theorem dX1_takesTrees_22 : decode cX1_takesTrees 22 = .ok (.iconst 0, 1) := by decide +kernel
theorem dX1_takesTrees_23 : decode cX1_takesTrees 23 = .ok (.iastore, 1) := by decide +kernel
theorem dX1_takesTrees_24 : decode cX1_takesTrees 24 = .ok (.aload_n 0, 1) := by decide +kernel
theorem dX1_takesTrees_25 : decode cX1_takesTrees 25 = .ok (.getfield 32, 3) := by decide +kernel
theorem dX1_takesTrees_28 : decode cX1_takesTrees 28 = .ok (.iload_n 1, 1) := by decide +kernel
theorem dX1_takesTrees_29 : decode cX1_takesTrees 29 = .ok (.iconst 0, 1) := by decide +kernel
theorem dX1_takesTrees_30 : decode cX1_takesTrees 30 = .ok (.iastore, 1) := by decide +kernel
theorem dX1_takesTrees_31 : decode cX1_takesTrees 31 = .ok (.iinc 1 1, 3) := by decide +kernel
theorem dX1_takesTrees_34 : decode cX1_takesTrees 34 = .ok (.goto (-32), 3) := by decide +kernel
theorem dX1_takesTrees_37 : decode cX1_takesTrees 37 = .ok (.iconst 0, 1) := by decide +kernel
theorem dX1_takesTrees_38 : decode cX1_takesTrees 38 = .ok (.istore_n 1, 1) := by decide +kernel
theorem dX1_takesTrees_39 : decode cX1_takesTrees 39 = .ok (.iload_n 1, 1) := by decide +kernel
theorem dX1_takesTrees_40 : decode cX1_takesTrees 40 = .ok (.aload_n 0, 1) := by decide +kernel
theorem dX1_takesTrees_41 : decode cX1_takesTrees 41 = .ok (.getfield 35, 3) := by decide +kernel
theorem dX1_takesTrees_44 : decode cX1_takesTrees 44 = .ok (.if_icmp .ge 35, 3) := by decide +kernel
theorem dX1_takesTrees_47 : decode cX1_takesTrees 47 = .ok (.aload_n 0, 1) := by decide +kernel
theorem dX1_takesTrees_48 : decode cX1_takesTrees 48 = .ok (.getfield 13, 3) := by decide +kernel
theorem dX1_takesTrees_51 : decode cX1_takesTrees 51 = .ok (.iload_n 1, 1) := by decide +kernel
theorem dX1_takesTrees_52 : decode cX1_takesTrees 52 = .ok (.iaload, 1) := by decide +kernel
theorem dX1_takesTrees_53 : decode cX1_takesTrees 53 = .ok (.bipush (-7), 2) := by decide +kernel
theorem dX1_takesTrees_55 : decode cX1_takesTrees 55 = .ok (.if_icmp .eq 18, 3) := by decide +kernel
theorem dX1_takesTrees_58 : decode cX1_takesTrees 58 = .ok (.aload_n 0, 1) := by decide +kernel
theorem dX1_takesTrees_59 : decode cX1_takesTrees 59 = .ok (.getfield 32, 3) := by decide +kernel
theorem dX1_takesTrees_62 : decode cX1_takesTrees 62 = .ok (.aload_n 0, 1) := by decide +kernel
theorem dX1_takesTrees_63 : decode cX1_takesTrees 63 = .ok (.getfield 13, 3) := by decide +kernel
theorem dX1_takesTrees_66 : decode cX1_takesTrees 66 = .ok (.iload_n 1, 1) := by decide +kernel
theorem dX1_takesTrees_67 : decode cX1_takesTrees 67 = .ok (.iaload, 1) := by decide +kernel
theorem dX1_takesTrees_68 : decode cX1_takesTrees 68 = .ok (.dup2, 1) := by decide +kernel
theorem dX1_takesTrees_69 : decode cX1_takesTrees 69 = .ok (.iaload, 1) := by decide +kernel
theorem dX1_takesTrees_70 : decode cX1_takesTrees 70 = .ok (.iconst 1, 1) := by decide +kernel
theorem dX1_takesTrees_71 : decode cX1_takesTrees 71 = .ok (.iadd, 1) := by decide +kernel
theorem dX1_takesTrees_72 : decode cX1_takesTrees 72 = .ok (.iastore, 1) := by decide +kernel
theorem dX1_takesTrees_73 : decode cX1_takesTrees 73 = .ok (.iinc 1 1, 3) := by decide +kernel
theorem dX1_takesTrees_76 : decode cX1_takesTrees 76 = .ok (.goto (-37), 3) := by decide +kernel
theorem dX1_takesTrees_79 : decode cX1_takesTrees 79 = .ok (.iconst 0, 1) := by decide +kernel
theorem dX1_takesTrees_80 : decode cX1_takesTrees 80 = .ok (.istore_n 1, 1) := by decide +kernel
theorem dX1_takesTrees_81 : decode cX1_takesTrees 81 = .ok (.iload_n 1, 1) := by decide +kernel
theorem dX1_takesTrees_82 : decode cX1_takesTrees 82 = .ok (.aload_n 0, 1) := by decide +kernel
theorem dX1_takesTrees_83 : decode cX1_takesTrees 83 = .ok (.getfield 35, 3) := by decide +kernel
theorem dX1_takesTrees_86 : decode cX1_takesTrees 86 = .ok (.if_icmp .ge 117, 3) := by decide +kernel
theorem dX1_takesTrees_89 : decode cX1_takesTrees 89 = .ok (.iconst 0, 1) := by decide +kernel
theorem dX1_takesTrees_90 : decode cX1_takesTrees 90 = .ok (.istore_n 2, 1) := by decide +kernel
theorem dX1_takesTrees_91 : decode cX1_takesTrees 91 = .ok (.iload_n 2, 1) := by decide +kernel
theorem dX1_takesTrees_92 : decode cX1_takesTrees 92 = .ok (.aload_n 0, 1) := by decide +kernel
theorem dX1_takesTrees_93 : decode cX1_takesTrees 93 = .ok (.getfield 35, 3) := by decide +kernel
theorem dX1_takesTrees_96 : decode cX1_takesTrees 96 = .ok (.if_icmp .ge 101, 3) := by decide +kernel
theorem dX1_takesTrees_99 : decode cX1_takesTrees 99 = .ok (.aload_n 0, 1) := by decide +kernel
theorem dX1_takesTrees_100 : decode cX1_takesTrees 100 = .ok (.getfield 32, 3) := by decide +kernel
theorem dX1_takesTrees_103 : decode cX1_takesTrees 103 = .ok (.iload_n 2, 1) := by decide +kernel
theorem dX1_takesTrees_104 : decode cX1_takesTrees 104 = .ok (.iaload, 1) := by decide +kernel
theorem dX1_takesTrees_105 : decode cX1_takesTrees 105 = .ok (.ifCond .ne 86, 3) := by decide +kernel
theorem dX1_takesTrees_108 : decode cX1_takesTrees 108 = .ok (.aload_n 0, 1) := by decide +kernel
theorem dX1_takesTrees_109 : decode cX1_takesTrees 109 = .ok (.getfield 32, 3) := by decide +kernel
theorem dX1_takesTrees_112 : decode cX1_takesTrees 112 = .ok (.iload_n 2, 1) := by decide +kernel
theorem dX1_takesTrees_113 : decode cX1_takesTrees 113 = .ok (.bipush (-7), 2) := by decide +kernel
theorem dX1_takesTrees_115 : decode cX1_takesTrees 115 = .ok (.iastore, 1) := by decide +kernel
theorem dX1_takesTrees_116 : decode cX1_takesTrees 116 = .ok (.aload_n 0, 1) := by decide +kernel
theorem dX1_takesTrees_117 : decode cX1_takesTrees 117 = .ok (.getfield 13, 3) := by decide +kernel
theorem dX1_takesTrees_120 : decode cX1_takesTrees 120 = .ok (.iload_n 2, 1) := by decide +kernel
theorem dX1_takesTrees_121 : decode cX1_takesTrees 121 = .ok (.iaload, 1) := by decide +kernel
theorem dX1_takesTrees_122 : decode cX1_takesTrees 122 = .ok (.bipush (-7), 2) := by decide +kernel
theorem dX1_takesTrees_124 : decode cX1_takesTrees 124 = .ok (.if_icmp .eq 67, 3) := by decide +kernel
theorem dX1_takesTrees_127 : decode cX1_takesTrees 127 = .ok (.aload_n 0, 1) := by decide +kernel
theorem dX1_takesTrees_128 : decode cX1_takesTrees 128 = .ok (.getfield 26, 3) := by decide +kernel
theorem dX1_takesTrees_131 : decode cX1_takesTrees 131 = .ok (.aload_n 0, 1) := by decide +kernel
theorem dX1_takesTrees_132 : decode cX1_takesTrees 132 = .ok (.getfield 13, 3) := by decide +kernel
theorem dX1_takesTrees_135 : decode cX1_takesTrees 135 = .ok (.iload_n 2, 1) := by decide +kernel
theorem dX1_takesTrees_136 : decode cX1_takesTrees 136 = .ok (.iaload, 1) := by decide +kernel
theorem dX1_takesTrees_137 : decode cX1_takesTrees 137 = .ok (.dup2, 1) := by decide +kernel
theorem dX1_takesTrees_138 : decode cX1_takesTrees 138 = .ok (.iaload, 1) := by decide +kernel
theorem dX1_takesTrees_139 : decode cX1_takesTrees 139 = .ok (.aload_n 0, 1) := by decide +kernel
theorem dX1_takesTrees_140 : decode cX1_takesTrees 140 = .ok (.getfield 29, 3) := by decide +kernel
theorem dX1_takesTrees_143 : decode cX1_takesTrees 143 = .ok (.iload_n 2, 1) := by decide +kernel
theorem dX1_takesTrees_144 : decode cX1_takesTrees 144 = .ok (.iaload, 1) := by decide +kernel
theorem dX1_takesTrees_145 : decode cX1_takesTrees 145 = .ok (.iadd, 1) := by decide +kernel
theorem dX1_takesTrees_146 : decode cX1_takesTrees 146 = .ok (.iastore, 1) := by decide +kernel
theorem dX1_takesTrees_147 : decode cX1_takesTrees 147 = .ok (.aload_n 0, 1) := by decide +kernel
theorem dX1_takesTrees_148 : decode cX1_takesTrees 148 = .ok (.getfield 29, 3) := by decide +kernel
theorem dX1_takesTrees_151 : decode cX1_takesTrees 151 = .ok (.aload_n 0, 1) := by decide +kernel
theorem dX1_takesTrees_152 : decode cX1_takesTrees 152 = .ok (.getfield 13, 3) := by decide +kernel
theorem dX1_takesTrees_155 : decode cX1_takesTrees 155 = .ok (.iload_n 2, 1) := by decide +kernel
theorem dX1_takesTrees_156 : decode cX1_takesTrees 156 = .ok (.iaload, 1) := by decide +kernel
theorem dX1_takesTrees_157 : decode cX1_takesTrees 157 = .ok (.dup2, 1) := by decide +kernel
theorem dX1_takesTrees_158 : decode cX1_takesTrees 158 = .ok (.iaload, 1) := by decide +kernel
theorem dX1_takesTrees_159 : decode cX1_takesTrees 159 = .ok (.aload_n 0, 1) := by decide +kernel
theorem dX1_takesTrees_160 : decode cX1_takesTrees 160 = .ok (.getfield 26, 3) := by decide +kernel
theorem dX1_takesTrees_163 : decode cX1_takesTrees 163 = .ok (.iload_n 2, 1) := by decide +kernel
theorem dX1_takesTrees_164 : decode cX1_takesTrees 164 = .ok (.iaload, 1) := by decide +kernel
theorem dX1_takesTrees_165 : decode cX1_takesTrees 165 = .ok (.aload_n 0, 1) := by decide +kernel
theorem dX1_takesTrees_166 : decode cX1_takesTrees 166 = .ok (.getfield 29, 3) := by decide +kernel
theorem dX1_takesTrees_169 : decode cX1_takesTrees 169 = .ok (.iload_n 2, 1) := by decide +kernel
theorem dX1_takesTrees_170 : decode cX1_takesTrees 170 = .ok (.iaload, 1) := by decide +kernel
theorem dX1_takesTrees_171 : decode cX1_takesTrees 171 = .ok (.invokestatic 113, 3) := by decide +kernel
theorem dX1_takesTrees_174 : decode cX1_takesTrees 174 = .ok (.iadd, 1) := by decide +kernel
theorem dX1_takesTrees_175 : decode cX1_takesTrees 175 = .ok (.iastore, 1) := by decide +kernel
theorem dX1_takesTrees_176 : decode cX1_takesTrees 176 = .ok (.aload_n 0, 1) := by decide +kernel
theorem dX1_takesTrees_177 : decode cX1_takesTrees 177 = .ok (.getfield 32, 3) := by decide +kernel
theorem dX1_takesTrees_180 : decode cX1_takesTrees 180 = .ok (.aload_n 0, 1) := by decide +kernel
theorem dX1_takesTrees_181 : decode cX1_takesTrees 181 = .ok (.getfield 13, 3) := by decide +kernel
theorem dX1_takesTrees_184 : decode cX1_takesTrees 184 = .ok (.iload_n 2, 1) := by decide +kernel
theorem dX1_takesTrees_185 : decode cX1_takesTrees 185 = .ok (.iaload, 1) := by decide +kernel
theorem dX1_takesTrees_186 : decode cX1_takesTrees 186 = .ok (.dup2, 1) := by decide +kernel
theorem dX1_takesTrees_187 : decode cX1_takesTrees 187 = .ok (.iaload, 1) := by decide +kernel
theorem dX1_takesTrees_188 : decode cX1_takesTrees 188 = .ok (.iconst 1, 1) := by decide +kernel
theorem dX1_takesTrees_189 : decode cX1_takesTrees 189 = .ok (.isub, 1) := by decide +kernel
theorem dX1_takesTrees_190 : decode cX1_takesTrees 190 = .ok (.iastore, 1) := by decide +kernel
theorem dX1_takesTrees_191 : decode cX1_takesTrees 191 = .ok (.iinc 2 1, 3) := by decide +kernel
theorem dX1_takesTrees_194 : decode cX1_takesTrees 194 = .ok (.goto (-103), 3) := by decide +kernel
theorem dX1_takesTrees_197 : decode cX1_takesTrees 197 = .ok (.iinc 1 1, 3) := by decide +kernel
theorem dX1_takesTrees_200 : decode cX1_takesTrees 200 = .ok (.goto (-119), 3) := by decide +kernel
theorem dX1_takesTrees_203 : decode cX1_takesTrees 203 = .ok (.return_, 1) := by decide +kernel
theorem dX1_bestOfCycle_0 : decode cX1_bestOfCycle 0 = .ok (.iload_n 2, 1) := by decide +kernel
theorem dX1_bestOfCycle_1 : decode cX1_bestOfCycle 1 = .ok (.ifCond .eq 12, 3) := by decide +kernel
theorem dX1_bestOfCycle_4 : decode cX1_bestOfCycle 4 = .ok (.aload_n 0, 1) := by decide +kernel
theorem dX1_bestOfCycle_5 : decode cX1_bestOfCycle 5 = .ok (.getfield 26, 3) := by decide +kernel
theorem dX1_bestOfCycle_8 : decode cX1_bestOfCycle 8 = .ok (.iload_n 1, 1) := by decide +kernel
theorem dX1_bestOfCycle_9 : decode cX1_bestOfCycle 9 = .ok (.iaload, 1) := by decide +kernel
theorem dX1_bestOfCycle_10 : decode cX1_bestOfCycle 10 = .ok (.goto 6, 3) := by decide +kernel
theorem dX1_bestOfCycle_13 : decode cX1_bestOfCycle 13 = .ok (.sipush (-1000), 3) := by decide +kernel
theorem dX1_bestOfCycle_16 : decode cX1_bestOfCycle 16 = .ok (.istore_n 3, 1) := by decide +kernel
theorem dX1_bestOfCycle_17 : decode cX1_bestOfCycle 17 = .ok (.iload_n 2, 1) := by decide +kernel
theorem dX1_bestOfCycle_18 : decode cX1_bestOfCycle 18 = .ok (.ifCond .eq 9, 3) := by decide +kernel
theorem dX1_bestOfCycle_21 : decode cX1_bestOfCycle 21 = .ok (.sipush (-1000), 3) := by decide +kernel
theorem dX1_bestOfCycle_24 : decode cX1_bestOfCycle 24 = .ok (.goto 9, 3) := by decide +kernel
theorem dX1_bestOfCycle_27 : decode cX1_bestOfCycle 27 = .ok (.aload_n 0, 1) := by decide +kernel
theorem dX1_bestOfCycle_28 : decode cX1_bestOfCycle 28 = .ok (.getfield 29, 3) := by decide +kernel
theorem dX1_bestOfCycle_31 : decode cX1_bestOfCycle 31 = .ok (.iload_n 1, 1) := by decide +kernel
theorem dX1_bestOfCycle_32 : decode cX1_bestOfCycle 32 = .ok (.iaload, 1) := by decide +kernel
theorem dX1_bestOfCycle_33 : decode cX1_bestOfCycle 33 = .ok (.istore 4, 2) := by decide +kernel
theorem dX1_bestOfCycle_35 : decode cX1_bestOfCycle 35 = .ok (.aload_n 0, 1) := by decide +kernel
theorem dX1_bestOfCycle_36 : decode cX1_bestOfCycle 36 = .ok (.getfield 13, 3) := by decide +kernel
theorem dX1_bestOfCycle_39 : decode cX1_bestOfCycle 39 = .ok (.iload_n 1, 1) := by decide +kernel
theorem dX1_bestOfCycle_40 : decode cX1_bestOfCycle 40 = .ok (.iaload, 1) := by decide +kernel
theorem dX1_bestOfCycle_41 : decode cX1_bestOfCycle 41 = .ok (.istore 5, 2) := by decide +kernel
theorem dX1_bestOfCycle_43 : decode cX1_bestOfCycle 43 = .ok (.iload 5, 2) := by decide +kernel
theorem dX1_bestOfCycle_45 : decode cX1_bestOfCycle 45 = .ok (.iload_n 1, 1) := by decide +kernel
theorem dX1_bestOfCycle_46 : decode cX1_bestOfCycle 46 = .ok (.if_icmp .eq 46, 3) := by decide +kernel
theorem dX1_bestOfCycle_49 : decode cX1_bestOfCycle 49 = .ok (.iload 4, 2) := by decide +kernel
theorem dX1_bestOfCycle_51 : decode cX1_bestOfCycle 51 = .ok (.aload_n 0, 1) := by decide +kernel
theorem dX1_bestOfCycle_52 : decode cX1_bestOfCycle 52 = .ok (.getfield 26, 3) := by decide +kernel
theorem dX1_bestOfCycle_55 : decode cX1_bestOfCycle 55 = .ok (.iload 5, 2) := by decide +kernel
theorem dX1_bestOfCycle_57 : decode cX1_bestOfCycle 57 = .ok (.iaload, 1) := by decide +kernel
theorem dX1_bestOfCycle_58 : decode cX1_bestOfCycle 58 = .ok (.iadd, 1) := by decide +kernel
theorem dX1_bestOfCycle_59 : decode cX1_bestOfCycle 59 = .ok (.istore 6, 2) := by decide +kernel
theorem dX1_bestOfCycle_61 : decode cX1_bestOfCycle 61 = .ok (.iload_n 3, 1) := by decide +kernel
theorem dX1_bestOfCycle_62 : decode cX1_bestOfCycle 62 = .ok (.iload 4, 2) := by decide +kernel
theorem dX1_bestOfCycle_64 : decode cX1_bestOfCycle 64 = .ok (.invokestatic 113, 3) := by decide +kernel
theorem dX1_bestOfCycle_67 : decode cX1_bestOfCycle 67 = .ok (.aload_n 0, 1) := by decide +kernel
theorem dX1_bestOfCycle_68 : decode cX1_bestOfCycle 68 = .ok (.getfield 29, 3) := by decide +kernel
theorem dX1_bestOfCycle_71 : decode cX1_bestOfCycle 71 = .ok (.iload 5, 2) := by decide +kernel
theorem dX1_bestOfCycle_73 : decode cX1_bestOfCycle 73 = .ok (.iaload, 1) := by decide +kernel
theorem dX1_bestOfCycle_74 : decode cX1_bestOfCycle 74 = .ok (.iadd, 1) := by decide +kernel
theorem dX1_bestOfCycle_75 : decode cX1_bestOfCycle 75 = .ok (.istore 4, 2) := by decide +kernel
theorem dX1_bestOfCycle_77 : decode cX1_bestOfCycle 77 = .ok (.iload 6, 2) := by decide +kernel
theorem dX1_bestOfCycle_79 : decode cX1_bestOfCycle 79 = .ok (.istore_n 3, 1) := by decide +kernel
theorem dX1_bestOfCycle_80 : decode cX1_bestOfCycle 80 = .ok (.aload_n 0, 1) := by decide +kernel
theorem dX1_bestOfCycle_81 : decode cX1_bestOfCycle 81 = .ok (.getfield 13, 3) := by decide +kernel
theorem dX1_bestOfCycle_84 : decode cX1_bestOfCycle 84 = .ok (.iload 5, 2) := by decide +kernel
theorem dX1_bestOfCycle_86 : decode cX1_bestOfCycle 86 = .ok (.iaload, 1) := by decide +kernel
theorem dX1_bestOfCycle_87 : decode cX1_bestOfCycle 87 = .ok (.istore 5, 2) := by decide +kernel
theorem dX1_bestOfCycle_89 : decode cX1_bestOfCycle 89 = .ok (.goto (-46), 3) := by decide +kernel
theorem dX1_bestOfCycle_92 : decode cX1_bestOfCycle 92 = .ok (.iload_n 2, 1) := by decide +kernel
theorem dX1_bestOfCycle_93 : decode cX1_bestOfCycle 93 = .ok (.ifCond .eq 8, 3) := by decide +kernel
theorem dX1_bestOfCycle_96 : decode cX1_bestOfCycle 96 = .ok (.iload 4, 2) := by decide +kernel
theorem dX1_bestOfCycle_98 : decode cX1_bestOfCycle 98 = .ok (.goto 9, 3) := by decide +kernel
theorem dX1_bestOfCycle_101 : decode cX1_bestOfCycle 101 = .ok (.iload_n 3, 1) := by decide +kernel
theorem dX1_bestOfCycle_102 : decode cX1_bestOfCycle 102 = .ok (.iload 4, 2) := by decide +kernel
theorem dX1_bestOfCycle_104 : decode cX1_bestOfCycle 104 = .ok (.invokestatic 113, 3) := by decide +kernel
theorem dX1_bestOfCycle_107 : decode cX1_bestOfCycle 107 = .ok (.ireturn, 1) := by decide +kernel
theorem dX1_greatestIndependentSet_0 : decode cX1_greatestIndependentSet 0 = .ok (.aload_n 0, 1) := by decide +kernel
theorem dX1_greatestIndependentSet_1 : decode cX1_greatestIndependentSet 1 = .ok (.iload_n 1, 1) := by decide +kernel
theorem dX1_greatestIndependentSet_2 : decode cX1_greatestIndependentSet 2 = .ok (.invokevirtual 58, 3) := by decide +kernel
theorem dX1_greatestIndependentSet_5 : decode cX1_greatestIndependentSet 5 = .ok (.ifCond .ne 5, 3) := by decide +kernel
theorem dX1_greatestIndependentSet_8 : decode cX1_greatestIndependentSet 8 = .ok (.iconst (-1), 1) := by decide +kernel
theorem dX1_greatestIndependentSet_9 : decode cX1_greatestIndependentSet 9 = .ok (.ireturn, 1) := by decide +kernel
theorem dX1_greatestIndependentSet_10 : decode cX1_greatestIndependentSet 10 = .ok (.aload_n 0, 1) := by decide +kernel
theorem dX1_greatestIndependentSet_11 : decode cX1_greatestIndependentSet 11 = .ok (.invokevirtual 116, 3) := by decide +kernel
theorem dX1_greatestIndependentSet_14 : decode cX1_greatestIndependentSet 14 = .ok (.aload_n 0, 1) := by decide +kernel
theorem dX1_greatestIndependentSet_15 : decode cX1_greatestIndependentSet 15 = .ok (.iload_n 1, 1) := by decide +kernel
theorem dX1_greatestIndependentSet_16 : decode cX1_greatestIndependentSet 16 = .ok (.invokevirtual 76, 3) := by decide +kernel
theorem dX1_greatestIndependentSet_19 : decode cX1_greatestIndependentSet 19 = .ok (.istore_n 2, 1) := by decide +kernel
theorem dX1_greatestIndependentSet_20 : decode cX1_greatestIndependentSet 20 = .ok (.aload_n 0, 1) := by decide +kernel
theorem dX1_greatestIndependentSet_21 : decode cX1_greatestIndependentSet 21 = .ok (.getfield 13, 3) := by decide +kernel
theorem dX1_greatestIndependentSet_24 : decode cX1_greatestIndependentSet 24 = .ok (.iload_n 2, 1) := by decide +kernel
theorem dX1_greatestIndependentSet_25 : decode cX1_greatestIndependentSet 25 = .ok (.iaload, 1) := by decide +kernel
theorem dX1_greatestIndependentSet_26 : decode cX1_greatestIndependentSet 26 = .ok (.bipush (-7), 2) := by decide +kernel
theorem dX1_greatestIndependentSet_28 : decode cX1_greatestIndependentSet 28 = .ok (.if_icmp .ne 19, 3) := by decide +kernel
theorem dX1_greatestIndependentSet_31 : decode cX1_greatestIndependentSet 31 = .ok (.aload_n 0, 1) := by decide +kernel
theorem dX1_greatestIndependentSet_32 : decode cX1_greatestIndependentSet 32 = .ok (.getfield 26, 3) := by decide +kernel
theorem dX1_greatestIndependentSet_35 : decode cX1_greatestIndependentSet 35 = .ok (.iload_n 2, 1) := by decide +kernel
theorem dX1_greatestIndependentSet_36 : decode cX1_greatestIndependentSet 36 = .ok (.iaload, 1) := by decide +kernel
theorem dX1_greatestIndependentSet_37 : decode cX1_greatestIndependentSet 37 = .ok (.aload_n 0, 1) := by decide +kernel
theorem dX1_greatestIndependentSet_38 : decode cX1_greatestIndependentSet 38 = .ok (.getfield 29, 3) := by decide +kernel
theorem dX1_greatestIndependentSet_41 : decode cX1_greatestIndependentSet 41 = .ok (.iload_n 2, 1) := by decide +kernel
theorem dX1_greatestIndependentSet_42 : decode cX1_greatestIndependentSet 42 = .ok (.iaload, 1) := by decide +kernel
theorem dX1_greatestIndependentSet_43 : decode cX1_greatestIndependentSet 43 = .ok (.invokestatic 113, 3) := by decide +kernel
theorem dX1_greatestIndependentSet_46 : decode cX1_greatestIndependentSet 46 = .ok (.ireturn, 1) := by decide +kernel
theorem dX1_greatestIndependentSet_47 : decode cX1_greatestIndependentSet 47 = .ok (.aload_n 0, 1) := by decide +kernel
theorem dX1_greatestIndependentSet_48 : decode cX1_greatestIndependentSet 48 = .ok (.iload_n 2, 1) := by decide +kernel
theorem dX1_greatestIndependentSet_49 : decode cX1_greatestIndependentSet 49 = .ok (.iconst 1, 1) := by decide +kernel
theorem dX1_greatestIndependentSet_50 : decode cX1_greatestIndependentSet 50 = .ok (.invokevirtual 119, 3) := by decide +kernel
theorem dX1_greatestIndependentSet_53 : decode cX1_greatestIndependentSet 53 = .ok (.aload_n 0, 1) := by decide +kernel
theorem dX1_greatestIndependentSet_54 : decode cX1_greatestIndependentSet 54 = .ok (.iload_n 2, 1) := by decide +kernel
theorem dX1_greatestIndependentSet_55 : decode cX1_greatestIndependentSet 55 = .ok (.iconst 0, 1) := by decide +kernel
theorem dX1_greatestIndependentSet_56 : decode cX1_greatestIndependentSet 56 = .ok (.invokevirtual 119, 3) := by decide +kernel
theorem dX1_greatestIndependentSet_59 : decode cX1_greatestIndependentSet 59 = .ok (.invokestatic 113, 3) := by decide +kernel
theorem dX1_greatestIndependentSet_62 : decode cX1_greatestIndependentSet 62 = .ok (.ireturn, 1) := by decide +kernel
