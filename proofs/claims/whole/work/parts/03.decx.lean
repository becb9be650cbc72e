theorem dX0_init_0 : decode cX0_init 0 = .ok (.aload_n 0, 1) := by decide +kernel
theorem dX0_init_1 : decode cX0_init 1 = .ok (.invokespecial 3, 3) := by decide +kernel
theorem dX0_init_4 : decode cX0_init 4 = .ok (.aload_n 0, 1) := by decide +kernel
theorem dX0_init_5 : decode cX0_init 5 = .ok (.bipush 24, 2) := by decide +kernel
theorem dX0_init_7 : decode cX0_init 7 = .ok (.newarray .int, 2) := by decide +kernel
theorem dX0_init_9 : decode cX0_init 9 = .ok (.putfield 9, 3) := by decide +kernel
theorem dX0_init_12 : decode cX0_init 12 = .ok (.aload_n 0, 1) := by decide +kernel
theorem dX0_init_13 : decode cX0_init 13 = .ok (.bipush 24, 2) := by decide +kernel
theorem dX0_init_15 : decode cX0_init 15 = .ok (.newarray .int, 2) := by decide +kernel
theorem dX0_init_17 : decode cX0_init 17 = .ok (.putfield 13, 3) := by decide +kernel
theorem dX0_init_20 : decode cX0_init 20 = .ok (.aload_n 0, 1) := by decide +kernel
theorem dX0_init_21 : decode cX0_init 21 = .ok (.bipush 18, 2) := by decide +kernel
theorem dX0_init_23 : decode cX0_init 23 = .ok (.bipush 24, 2) := by decide +kernel
theorem dX0_init_25 : decode cX0_init 25 = .ok (.multianewarray 16 2, 4) := by decide +kernel
theorem dX0_init_29 : decode cX0_init 29 = .ok (.putfield 18, 3) := by decide +kernel
theorem dX0_init_32 : decode cX0_init 32 = .ok (.aload_n 0, 1) := by decide +kernel
theorem dX0_init_33 : decode cX0_init 33 = .ok (.aload_n 0, 1) := by decide +kernel
theorem dX0_init_34 : decode cX0_init 34 = .ok (.getfield 18, 3) := by decide +kernel
theorem dX0_init_37 : decode cX0_init 37 = .ok (.iconst 0, 1) := by decide +kernel
theorem dX0_init_38 : decode cX0_init 38 = .ok (.aaload, 1) := by decide +kernel
theorem dX0_init_39 : decode cX0_init 39 = .ok (.putfield 21, 3) := by decide +kernel
theorem dX0_init_42 : decode cX0_init 42 = .ok (.aload_n 0, 1) := by decide +kernel
theorem dX0_init_43 : decode cX0_init 43 = .ok (.iconst 0, 1) := by decide +kernel
theorem dX0_init_44 : decode cX0_init 44 = .ok (.putfield 24, 3) := by decide +kernel
theorem dX0_init_47 : decode cX0_init 47 = .ok (.aload_n 0, 1) := by decide +kernel
theorem dX0_init_48 : decode cX0_init 48 = .ok (.iconst 0, 1) := by decide +kernel
theorem dX0_init_49 : decode cX0_init 49 = .ok (.putfield 28, 3) := by decide +kernel
theorem dX0_init_52 : decode cX0_init 52 = .ok (.aload_n 0, 1) := by decide +kernel
theorem dX0_init_53 : decode cX0_init 53 = .ok (.iconst 0, 1) := by decide +kernel
theorem dX0_init_54 : decode cX0_init 54 = .ok (.putfield 31, 3) := by decide +kernel
theorem dX0_init_57 : decode cX0_init 57 = .ok (.return_, 1) := by decide +kernel
theorem dX0_addNode_0 : decode cX0_addNode 0 = .ok (.iload_n 1, 1) := by decide +kernel
theorem dX0_addNode_1 : decode cX0_addNode 1 = .ok (.invokestatic 34, 3) := by decide +kernel
theorem dX0_addNode_4 : decode cX0_addNode 4 = .ok (.ifCond .ne 6, 3) := by decide +kernel
theorem dX0_addNode_7 : decode cX0_addNode 7 = .ok (.bipush (-2), 2) := by decide +kernel
theorem dX0_addNode_9 : decode cX0_addNode 9 = .ok (.ireturn, 1) := by decide +kernel
theorem dX0_addNode_10 : decode cX0_addNode 10 = .ok (.aload_n 0, 1) := by decide +kernel
theorem dX0_addNode_11 : decode cX0_addNode 11 = .ok (.iload_n 1, 1) := by decide +kernel
theorem dX0_addNode_12 : decode cX0_addNode 12 = .ok (.invokevirtual 38, 3) := by decide +kernel
theorem dX0_addNode_15 : decode cX0_addNode 15 = .ok (.ifCond .eq 6, 3) := by decide +kernel
theorem dX0_addNode_18 : decode cX0_addNode 18 = .ok (.bipush (-3), 2) := by decide +kernel
theorem dX0_addNode_20 : decode cX0_addNode 20 = .ok (.ireturn, 1) := by decide +kernel
theorem dX0_addNode_21 : decode cX0_addNode 21 = .ok (.aload_n 0, 1) := by decide +kernel
theorem dX0_addNode_22 : decode cX0_addNode 22 = .ok (.getfield 28, 3) := by decide +kernel
theorem dX0_addNode_25 : decode cX0_addNode 25 = .ok (.bipush 24, 2) := by decide +kernel
theorem dX0_addNode_27 : decode cX0_addNode 27 = .ok (.if_icmp .lt 6, 3) := by decide +kernel
theorem dX0_addNode_30 : decode cX0_addNode 30 = .ok (.bipush (-4), 2) := by decide +kernel
theorem dX0_addNode_32 : decode cX0_addNode 32 = .ok (.ireturn, 1) := by decide +kernel
theorem dX0_addNode_33 : decode cX0_addNode 33 = .ok (.aload_n 0, 1) := by decide +kernel
theorem dX0_addNode_34 : decode cX0_addNode 34 = .ok (.getfield 28, 3) := by decide +kernel
theorem dX0_addNode_37 : decode cX0_addNode 37 = .ok (.istore_n 2, 1) := by decide +kernel
theorem dX0_addNode_38 : decode cX0_addNode 38 = .ok (.aload_n 0, 1) := by decide +kernel
theorem dX0_addNode_39 : decode cX0_addNode 39 = .ok (.dup, 1) := by decide +kernel
theorem dX0_addNode_40 : decode cX0_addNode 40 = .ok (.getfield 28, 3) := by decide +kernel
theorem dX0_addNode_43 : decode cX0_addNode 43 = .ok (.iconst 1, 1) := by decide +kernel
theorem dX0_addNode_44 : decode cX0_addNode 44 = .ok (.iadd, 1) := by decide +kernel
theorem dX0_addNode_45 : decode cX0_addNode 45 = .ok (.putfield 28, 3) := by decide +kernel
theorem dX0_addNode_48 : decode cX0_addNode 48 = .ok (.aload_n 0, 1) := by decide +kernel
theorem dX0_addNode_49 : decode cX0_addNode 49 = .ok (.getfield 9, 3) := by decide +kernel
theorem dX0_addNode_52 : decode cX0_addNode 52 = .ok (.iload_n 2, 1) := by decide +kernel
theorem dX0_addNode_53 : decode cX0_addNode 53 = .ok (.iload_n 1, 1) := by decide +kernel
theorem dX0_addNode_54 : decode cX0_addNode 54 = .ok (.iastore, 1) := by decide +kernel
theorem dX0_addNode_55 : decode cX0_addNode 55 = .ok (.aload_n 0, 1) := by decide +kernel
theorem dX0_addNode_56 : decode cX0_addNode 56 = .ok (.getfield 13, 3) := by decide +kernel
theorem dX0_addNode_59 : decode cX0_addNode 59 = .ok (.iload_n 2, 1) := by decide +kernel
theorem dX0_addNode_60 : decode cX0_addNode 60 = .ok (.bipush (-7), 2) := by decide +kernel
theorem dX0_addNode_62 : decode cX0_addNode 62 = .ok (.iastore, 1) := by decide +kernel
theorem dX0_addNode_63 : decode cX0_addNode 63 = .ok (.aload_n 0, 1) := by decide +kernel
theorem dX0_addNode_64 : decode cX0_addNode 64 = .ok (.getfield 21, 3) := by decide +kernel
theorem dX0_addNode_67 : decode cX0_addNode 67 = .ok (.iload_n 2, 1) := by decide +kernel
theorem dX0_addNode_68 : decode cX0_addNode 68 = .ok (.iload_n 1, 1) := by decide +kernel
theorem dX0_addNode_69 : decode cX0_addNode 69 = .ok (.iastore, 1) := by decide +kernel
theorem dX0_addNode_70 : decode cX0_addNode 70 = .ok (.aload_n 0, 1) := by decide +kernel
theorem dX0_addNode_71 : decode cX0_addNode 71 = .ok (.invokevirtual 41, 3) := by decide +kernel
theorem dX0_addNode_74 : decode cX0_addNode 74 = .ok (.iload_n 2, 1) := by decide +kernel
theorem dX0_addNode_75 : decode cX0_addNode 75 = .ok (.ireturn, 1) := by decide +kernel
theorem dX0_setParent_0 : decode cX0_setParent 0 = .ok (.aload_n 0, 1) := by decide +kernel
theorem dX0_setParent_1 : decode cX0_setParent 1 = .ok (.iload_n 1, 1) := by decide +kernel
theorem dX0_setParent_2 : decode cX0_setParent 2 = .ok (.invokevirtual 44, 3) := by decide +kernel
theorem dX0_setParent_5 : decode cX0_setParent 5 = .ok (.ifCond .eq 11, 3) := by decide +kernel
theorem dX0_setParent_8 : decode cX0_setParent 8 = .ok (.aload_n 0, 1) := by decide +kernel
theorem dX0_setParent_9 : decode cX0_setParent 9 = .ok (.iload_n 2, 1) := by decide +kernel
theorem dX0_setParent_10 : decode cX0_setParent 10 = .ok (.invokevirtual 44, 3) := by decide +kernel
theorem dX0_setParent_13 : decode cX0_setParent 13 = .ok (.ifCond .ne 5, 3) := by decide +kernel
theorem dX0_setParent_16 : decode cX0_setParent 16 = .ok (.iconst (-1), 1) := by decide +kernel
theorem dX0_setParent_17 : decode cX0_setParent 17 = .ok (.ireturn, 1) := by decide +kernel
theorem dX0_setParent_18 : decode cX0_setParent 18 = .ok (.iload_n 1, 1) := by decide +kernel
theorem dX0_setParent_19 : decode cX0_setParent 19 = .ok (.iload_n 2, 1) := by decide +kernel
theorem dX0_setParent_20 : decode cX0_setParent 20 = .ok (.if_icmp .ne 6, 3) := by decide +kernel
theorem dX0_setParent_23 : decode cX0_setParent 23 = .ok (.bipush (-2), 2) := by decide +kernel
theorem dX0_setParent_25 : decode cX0_setParent 25 = .ok (.ireturn, 1) := by decide +kernel
theorem dX0_setParent_26 : decode cX0_setParent 26 = .ok (.aload_n 0, 1) := by decide +kernel
theorem dX0_setParent_27 : decode cX0_setParent 27 = .ok (.iload_n 1, 1) := by decide +kernel
theorem dX0_setParent_28 : decode cX0_setParent 28 = .ok (.iload_n 2, 1) := by decide +kernel
theorem dX0_setParent_29 : decode cX0_setParent 29 = .ok (.invokevirtual 47, 3) := by decide +kernel
theorem dX0_setParent_32 : decode cX0_setParent 32 = .ok (.ireturn, 1) := by decide +kernel
theorem dX0_removeParent_0 : decode cX0_removeParent 0 = .ok (.aload_n 0, 1) := by decide +kernel
theorem dX0_removeParent_1 : decode cX0_removeParent 1 = .ok (.iload_n 1, 1) := by decide +kernel
theorem dX0_removeParent_2 : decode cX0_removeParent 2 = .ok (.invokevirtual 44, 3) := by decide +kernel
theorem dX0_removeParent_5 : decode cX0_removeParent 5 = .ok (.ifCond .ne 5, 3) := by decide +kernel
theorem dX0_removeParent_8 : decode cX0_removeParent 8 = .ok (.iconst (-1), 1) := by decide +kernel
theorem dX0_removeParent_9 : decode cX0_removeParent 9 = .ok (.ireturn, 1) := by decide +kernel
theorem dX0_removeParent_10 : decode cX0_removeParent 10 = .ok (.aload_n 0, 1) := by decide +kernel
theorem dX0_removeParent_11 : decode cX0_removeParent 11 = .ok (.iload_n 1, 1) := by decide +kernel
theorem dX0_removeParent_12 : decode cX0_removeParent 12 = .ok (.bipush (-7), 2) := by decide +kernel
theorem dX0_removeParent_14 : decode cX0_removeParent 14 = .ok (.invokevirtual 47, 3) := by decide +kernel
theorem dX0_removeParent_17 : decode cX0_removeParent 17 = .ok (.ireturn, 1) := by decide +kernel
theorem dX0_parent_0 : decode cX0_parent 0 = .ok (.aload_n 0, 1) := by decide +kernel
theorem dX0_parent_1 : decode cX0_parent 1 = .ok (.iload_n 1, 1) := by decide +kernel
theorem dX0_parent_2 : decode cX0_parent 2 = .ok (.invokevirtual 44, 3) := by decide +kernel
theorem dX0_parent_5 : decode cX0_parent 5 = .ok (.ifCond .ne 5, 3) := by decide +kernel
theorem dX0_parent_8 : decode cX0_parent 8 = .ok (.iconst (-1), 1) := by decide +kernel
theorem dX0_parent_9 : decode cX0_parent 9 = .ok (.ireturn, 1) := by decide +kernel
theorem dX0_parent_10 : decode cX0_parent 10 = .ok (.aload_n 0, 1) := by decide +kernel
theorem dX0_parent_11 : decode cX0_parent 11 = .ok (.getfield 13, 3) := by decide +kernel
theorem dX0_parent_14 : decode cX0_parent 14 = .ok (.iload_n 1, 1) := by decide +kernel
theorem dX0_parent_15 : decode cX0_parent 15 = .ok (.iaload, 1) := by decide +kernel
theorem dX0_parent_16 : decode cX0_parent 16 = .ok (.ireturn, 1) := by decide +kernel
theorem dX0_degree_0 : decode cX0_degree 0 = .ok (.aload_n 0, 1) := by decide +kernel
theorem dX0_degree_1 : decode cX0_degree 1 = .ok (.iload_n 1, 1) := by decide +kernel
theorem dX0_degree_2 : decode cX0_degree 2 = .ok (.invokevirtual 44, 3) := by decide +kernel
theorem dX0_degree_5 : decode cX0_degree 5 = .ok (.ifCond .ne 5, 3) := by decide +kernel
theorem dX0_degree_8 : decode cX0_degree 8 = .ok (.iconst (-1), 1) := by decide +kernel
theorem dX0_degree_9 : decode cX0_degree 9 = .ok (.ireturn, 1) := by decide +kernel
theorem dX0_degree_10 : decode cX0_degree 10 = .ok (.aload_n 0, 1) := by decide +kernel
theorem dX0_degree_11 : decode cX0_degree 11 = .ok (.iload_n 1, 1) := by decide +kernel
theorem dX0_degree_12 : decode cX0_degree 12 = .ok (.invokevirtual 51, 3) := by decide +kernel
theorem dX0_degree_15 : decode cX0_degree 15 = .ok (.invokestatic 55, 3) := by decide +kernel
theorem dX0_degree_18 : decode cX0_degree 18 = .ok (.ireturn, 1) := by decide +kernel
theorem dX0_depth_0 : decode cX0_depth 0 = .ok (.aload_n 0, 1) := by decide +kernel
theorem dX0_depth_1 : decode cX0_depth 1 = .ok (.iload_n 1, 1) := by decide +kernel
theorem dX0_depth_2 : decode cX0_depth 2 = .ok (.invokevirtual 44, 3) := by decide +kernel
theorem dX0_depth_5 : decode cX0_depth 5 = .ok (.ifCond .ne 5, 3) := by decide +kernel
theorem dX0_depth_8 : decode cX0_depth 8 = .ok (.iconst (-1), 1) := by decide +kernel
theorem dX0_depth_9 : decode cX0_depth 9 = .ok (.ireturn, 1) := by decide +kernel
theorem dX0_depth_10 : decode cX0_depth 10 = .ok (.iload_n 1, 1) := by decide +kernel
theorem dX0_depth_11 : decode cX0_depth 11 = .ok (.istore_n 2, 1) := by decide +kernel
theorem dX0_depth_12 : decode cX0_depth 12 = .ok (.iconst 0, 1) := by decide +kernel
theorem dX0_depth_13 : decode cX0_depth 13 = .ok (.istore_n 3, 1) := by decide +kernel
theorem dX0_depth_14 : decode cX0_depth 14 = .ok (.iload_n 3, 1) := by decide +kernel
theorem dX0_depth_15 : decode cX0_depth 15 = .ok (.aload_n 0, 1) := by decide +kernel
theorem dX0_depth_16 : decode cX0_depth 16 = .ok (.getfield 28, 3) := by decide +kernel
theorem dX0_depth_19 : decode cX0_depth 19 = .ok (.if_icmp .ge 26, 3) := by decide +kernel
theorem dX0_depth_22 : decode cX0_depth 22 = .ok (.aload_n 0, 1) := by decide +kernel
theorem dX0_depth_23 : decode cX0_depth 23 = .ok (.iload_n 2, 1) := by decide +kernel
theorem dX0_depth_24 : decode cX0_depth 24 = .ok (.invokevirtual 60, 3) := by decide +kernel
theorem dX0_depth_27 : decode cX0_depth 27 = .ok (.ifCond .eq 5, 3) := by decide +kernel
theorem dX0_depth_30 : decode cX0_depth 30 = .ok (.iload_n 3, 1) := by decide +kernel
theorem dX0_depth_31 : decode cX0_depth 31 = .ok (.ireturn, 1) := by decide +kernel
theorem dX0_depth_32 : decode cX0_depth 32 = .ok (.aload_n 0, 1) := by decide +kernel
theorem dX0_depth_33 : decode cX0_depth 33 = .ok (.getfield 13, 3) := by decide +kernel
theorem dX0_depth_36 : decode cX0_depth 36 = .ok (.iload_n 2, 1) := by decide +kernel
theorem dX0_depth_37 : decode cX0_depth 37 = .ok (.iaload, 1) := by decide +kernel
theorem dX0_depth_38 : decode cX0_depth 38 = .ok (.istore_n 2, 1) := by decide +kernel
theorem dX0_depth_39 : decode cX0_depth 39 = .ok (.iinc 3 1, 3) := by decide +kernel
theorem dX0_depth_42 : decode cX0_depth 42 = .ok (.goto (-28), 3) := by decide +kernel
theorem dX0_depth_45 : decode cX0_depth 45 = .ok (.bipush (-7), 2) := by decide +kernel
theorem dX0_depth_47 : decode cX0_depth 47 = .ok (.ireturn, 1) := by decide +kernel
theorem dX0_cycleLength_0 : decode cX0_cycleLength 0 = .ok (.aload_n 0, 1) := by decide +kernel
theorem dX0_cycleLength_1 : decode cX0_cycleLength 1 = .ok (.iload_n 1, 1) := by decide +kernel
theorem dX0_cycleLength_2 : decode cX0_cycleLength 2 = .ok (.invokevirtual 44, 3) := by decide +kernel
theorem dX0_cycleLength_5 : decode cX0_cycleLength 5 = .ok (.ifCond .ne 5, 3) := by decide +kernel
theorem dX0_cycleLength_8 : decode cX0_cycleLength 8 = .ok (.iconst (-1), 1) := by decide +kernel
theorem dX0_cycleLength_9 : decode cX0_cycleLength 9 = .ok (.ireturn, 1) := by decide +kernel
theorem dX0_cycleLength_10 : decode cX0_cycleLength 10 = .ok (.iload_n 1, 1) := by decide +kernel
theorem dX0_cycleLength_11 : decode cX0_cycleLength 11 = .ok (.istore_n 2, 1) := by decide +kernel
theorem dX0_cycleLength_12 : decode cX0_cycleLength 12 = .ok (.iconst 1, 1) := by decide +kernel
theorem dX0_cycleLength_13 : decode cX0_cycleLength 13 = .ok (.istore_n 3, 1) := by decide +kernel
theorem dX0_cycleLength_14 : decode cX0_cycleLength 14 = .ok (.iload_n 3, 1) := by decide +kernel
theorem dX0_cycleLength_15 : decode cX0_cycleLength 15 = .ok (.aload_n 0, 1) := by decide +kernel
theorem dX0_cycleLength_16 : decode cX0_cycleLength 16 = .ok (.getfield 28, 3) := by decide +kernel
theorem dX0_cycleLength_19 : decode cX0_cycleLength 19 = .ok (.if_icmp .gt 34, 3) := by decide +kernel
theorem dX0_cycleLength_22 : decode cX0_cycleLength 22 = .ok (.aload_n 0, 1) := by decide +kernel
theorem dX0_cycleLength_23 : decode cX0_cycleLength 23 = .ok (.iload_n 2, 1) := by decide +kernel
theorem dX0_cycleLength_24 : decode cX0_cycleLength 24 = .ok (.invokevirtual 60, 3) := by decide +kernel
theorem dX0_cycleLength_27 : decode cX0_cycleLength 27 = .ok (.ifCond .eq 6, 3) := by decide +kernel
theorem dX0_cycleLength_30 : decode cX0_cycleLength 30 = .ok (.bipush (-7), 2) := by decide +kernel
theorem dX0_cycleLength_32 : decode cX0_cycleLength 32 = .ok (.ireturn, 1) := by decide +kernel
theorem dX0_cycleLength_33 : decode cX0_cycleLength 33 = .ok (.aload_n 0, 1) := by decide +kernel
theorem dX0_cycleLength_34 : decode cX0_cycleLength 34 = .ok (.getfield 13, 3) := by decide +kernel
theorem dX0_cycleLength_37 : decode cX0_cycleLength 37 = .ok (.iload_n 2, 1) := by decide +kernel
theorem dX0_cycleLength_38 : decode cX0_cycleLength 38 = .ok (.iaload, 1) := by decide +kernel
theorem dX0_cycleLength_39 : decode cX0_cycleLength 39 = .ok (.istore_n 2, 1) := by decide +kernel
theorem dX0_cycleLength_40 : decode cX0_cycleLength 40 = .ok (.iload_n 2, 1) := by decide +kernel
theorem dX0_cycleLength_41 : decode cX0_cycleLength 41 = .ok (.iload_n 1, 1) := by decide +kernel
theorem dX0_cycleLength_42 : decode cX0_cycleLength 42 = .ok (.if_icmp .ne 5, 3) := by decide +kernel
theorem dX0_cycleLength_45 : decode cX0_cycleLength 45 = .ok (.iload_n 3, 1) := by decide +kernel
theorem dX0_cycleLength_46 : decode cX0_cycleLength 46 = .ok (.ireturn, 1) := by decide +kernel
theorem dX0_cycleLength_47 : decode cX0_cycleLength 47 = .ok (.iinc 3 1, 3) := by decide +kernel
theorem dX0_cycleLength_50 : decode cX0_cycleLength 50 = .ok (.goto (-36), 3) := by decide +kernel
theorem dX0_cycleLength_53 : decode cX0_cycleLength 53 = .ok (.bipush (-7), 2) := by decide +kernel
theorem dX0_cycleLength_55 : decode cX0_cycleLength 55 = .ok (.ireturn, 1) := by decide +kernel
theorem dX0_partCount_0 : decode cX0_partCount 0 = .ok (.iconst 0, 1) := by decide +kernel
theorem dX0_partCount_1 : decode cX0_partCount 1 = .ok (.istore_n 1, 1) := by decide +kernel
theorem dX0_partCount_2 : decode cX0_partCount 2 = .ok (.iconst 0, 1) := by decide +kernel
theorem dX0_partCount_3 : decode cX0_partCount 3 = .ok (.istore_n 2, 1) := by decide +kernel
theorem dX0_partCount_4 : decode cX0_partCount 4 = .ok (.iconst 0, 1) := by decide +kernel
theorem dX0_partCount_5 : decode cX0_partCount 5 = .ok (.istore_n 3, 1) := by decide +kernel
theorem dX0_partCount_6 : decode cX0_partCount 6 = .ok (.iload_n 3, 1) := by decide +kernel
theorem dX0_partCount_7 : decode cX0_partCount 7 = .ok (.aload_n 0, 1) := by decide +kernel
theorem dX0_partCount_8 : decode cX0_partCount 8 = .ok (.getfield 28, 3) := by decide +kernel
theorem dX0_partCount_11 : decode cX0_partCount 11 = .ok (.if_icmp .ge 28, 3) := by decide +kernel
theorem dX0_partCount_14 : decode cX0_partCount 14 = .ok (.iload_n 2, 1) := by decide +kernel
theorem dX0_partCount_15 : decode cX0_partCount 15 = .ok (.iload_n 3, 1) := by decide +kernel
theorem dX0_partCount_16 : decode cX0_partCount 16 = .ok (.invokestatic 63, 3) := by decide +kernel
theorem dX0_partCount_19 : decode cX0_partCount 19 = .ok (.ifCond .ne 14, 3) := by decide +kernel
theorem dX0_partCount_22 : decode cX0_partCount 22 = .ok (.iload_n 2, 1) := by decide +kernel
theorem dX0_partCount_23 : decode cX0_partCount 23 = .ok (.aload_n 0, 1) := by decide +kernel
theorem dX0_partCount_24 : decode cX0_partCount 24 = .ok (.iload_n 3, 1) := by decide +kernel
theorem dX0_partCount_25 : decode cX0_partCount 25 = .ok (.invokevirtual 67, 3) := by decide +kernel
theorem dX0_partCount_28 : decode cX0_partCount 28 = .ok (.ior, 1) := by decide +kernel
theorem dX0_partCount_29 : decode cX0_partCount 29 = .ok (.istore_n 2, 1) := by decide +kernel
theorem dX0_partCount_30 : decode cX0_partCount 30 = .ok (.iinc 1 1, 3) := by decide +kernel
theorem dX0_partCount_33 : decode cX0_partCount 33 = .ok (.iinc 3 1, 3) := by decide +kernel
theorem dX0_partCount_36 : decode cX0_partCount 36 = .ok (.goto (-30), 3) := by decide +kernel
theorem dX0_partCount_39 : decode cX0_partCount 39 = .ok (.iload_n 1, 1) := by decide +kernel
theorem dX0_partCount_40 : decode cX0_partCount 40 = .ok (.ireturn, 1) := by decide +kernel
theorem dX0_colour_0 : decode cX0_colour 0 = .ok (.aload_n 0, 1) := by decide +kernel
theorem dX0_colour_1 : decode cX0_colour 1 = .ok (.iload_n 1, 1) := by decide +kernel
theorem dX0_colour_2 : decode cX0_colour 2 = .ok (.invokevirtual 44, 3) := by decide +kernel
theorem dX0_colour_5 : decode cX0_colour 5 = .ok (.ifCond .ne 5, 3) := by decide +kernel
theorem dX0_colour_8 : decode cX0_colour 8 = .ok (.iconst (-1), 1) := by decide +kernel
theorem dX0_colour_9 : decode cX0_colour 9 = .ok (.ireturn, 1) := by decide +kernel
theorem dX0_colour_10 : decode cX0_colour 10 = .ok (.aload_n 0, 1) := by decide +kernel
theorem dX0_colour_11 : decode cX0_colour 11 = .ok (.getfield 21, 3) := by decide +kernel
theorem dX0_colour_14 : decode cX0_colour 14 = .ok (.iload_n 1, 1) := by decide +kernel
theorem dX0_colour_15 : decode cX0_colour 15 = .ok (.iaload, 1) := by decide +kernel
theorem dX0_colour_16 : decode cX0_colour 16 = .ok (.ireturn, 1) := by decide +kernel
theorem dX0_setColour_0 : decode cX0_setColour 0 = .ok (.aload_n 0, 1) := by decide +kernel
theorem dX0_setColour_1 : decode cX0_setColour 1 = .ok (.iload_n 1, 1) := by decide +kernel
theorem dX0_setColour_2 : decode cX0_setColour 2 = .ok (.invokevirtual 44, 3) := by decide +kernel
theorem dX0_setColour_5 : decode cX0_setColour 5 = .ok (.ifCond .ne 5, 3) := by decide +kernel
theorem dX0_setColour_8 : decode cX0_setColour 8 = .ok (.iconst (-1), 1) := by decide +kernel
theorem dX0_setColour_9 : decode cX0_setColour 9 = .ok (.ireturn, 1) := by decide +kernel
theorem dX0_setColour_10 : decode cX0_setColour 10 = .ok (.iload_n 2, 1) := by decide +kernel
theorem dX0_setColour_11 : decode cX0_setColour 11 = .ok (.invokestatic 34, 3) := by decide +kernel
theorem dX0_setColour_14 : decode cX0_setColour 14 = .ok (.ifCond .ne 6, 3) := by decide +kernel
theorem dX0_setColour_17 : decode cX0_setColour 17 = .ok (.bipush (-2), 2) := by decide +kernel
theorem dX0_setColour_19 : decode cX0_setColour 19 = .ok (.ireturn, 1) := by decide +kernel
theorem dX0_setColour_20 : decode cX0_setColour 20 = .ok (.aload_n 0, 1) := by decide +kernel
theorem dX0_setColour_21 : decode cX0_setColour 21 = .ok (.getfield 21, 3) := by decide +kernel
theorem dX0_setColour_24 : decode cX0_setColour 24 = .ok (.iload_n 1, 1) := by decide +kernel
theorem dX0_setColour_25 : decode cX0_setColour 25 = .ok (.iaload, 1) := by decide +kernel
theorem dX0_setColour_26 : decode cX0_setColour 26 = .ok (.istore_n 3, 1) := by decide +kernel
theorem dX0_setColour_27 : decode cX0_setColour 27 = .ok (.aload_n 0, 1) := by decide +kernel
theorem dX0_setColour_28 : decode cX0_setColour 28 = .ok (.getfield 21, 3) := by decide +kernel
theorem dX0_setColour_31 : decode cX0_setColour 31 = .ok (.iload_n 1, 1) := by decide +kernel
theorem dX0_setColour_32 : decode cX0_setColour 32 = .ok (.iload_n 2, 1) := by decide +kernel
theorem dX0_setColour_33 : decode cX0_setColour 33 = .ok (.iastore, 1) := by decide +kernel
theorem dX0_setColour_34 : decode cX0_setColour 34 = .ok (.aload_n 0, 1) := by decide +kernel
theorem dX0_setColour_35 : decode cX0_setColour 35 = .ok (.invokevirtual 41, 3) := by decide +kernel
theorem dX0_setColour_38 : decode cX0_setColour 38 = .ok (.iload_n 3, 1) := by decide +kernel
theorem dX0_setColour_39 : decode cX0_setColour 39 = .ok (.ireturn, 1) := by decide +kernel
theorem dX0_resetColours_0 : decode cX0_resetColours 0 = .ok (.iconst 0, 1) := by decide +kernel
theorem dX0_resetColours_1 : decode cX0_resetColours 1 = .ok (.istore_n 1, 1) := by decide +kernel
theorem dX0_resetColours_2 : decode cX0_resetColours 2 = .ok (.iconst 0, 1) := by decide +kernel
theorem dX0_resetColours_3 : decode cX0_resetColours 3 = .ok (.istore_n 2, 1) := by decide +kernel
theorem dX0_resetColours_4 : decode cX0_resetColours 4 = .ok (.iload_n 2, 1) := by decide +kernel
theorem dX0_resetColours_5 : decode cX0_resetColours 5 = .ok (.aload_n 0, 1) := by decide +kernel
theorem dX0_resetColours_6 : decode cX0_resetColours 6 = .ok (.getfield 28, 3) := by decide +kernel
theorem dX0_resetColours_9 : decode cX0_resetColours 9 = .ok (.if_icmp .ge 39, 3) := by decide +kernel
theorem dX0_resetColours_12 : decode cX0_resetColours 12 = .ok (.aload_n 0, 1) := by decide +kernel
theorem dX0_resetColours_13 : decode cX0_resetColours 13 = .ok (.getfield 21, 3) := by decide +kernel
theorem dX0_resetColours_16 : decode cX0_resetColours 16 = .ok (.iload_n 2, 1) := by decide +kernel
theorem dX0_resetColours_17 : decode cX0_resetColours 17 = .ok (.iaload, 1) := by decide +kernel
theorem dX0_resetColours_18 : decode cX0_resetColours 18 = .ok (.aload_n 0, 1) := by decide +kernel
theorem dX0_resetColours_19 : decode cX0_resetColours 19 = .ok (.getfield 9, 3) := by decide +kernel
theorem dX0_resetColours_22 : decode cX0_resetColours 22 = .ok (.iload_n 2, 1) := by decide +kernel
theorem dX0_resetColours_23 : decode cX0_resetColours 23 = .ok (.iaload, 1) := by decide +kernel
theorem dX0_resetColours_24 : decode cX0_resetColours 24 = .ok (.if_icmp .eq 18, 3) := by decide +kernel
theorem dX0_resetColours_27 : decode cX0_resetColours 27 = .ok (.aload_n 0, 1) := by decide +kernel
theorem dX0_resetColours_28 : decode cX0_resetColours 28 = .ok (.getfield 21, 3) := by decide +kernel
theorem dX0_resetColours_31 : decode cX0_resetColours 31 = .ok (.iload_n 2, 1) := by decide +kernel
theorem dX0_resetColours_32 : decode cX0_resetColours 32 = .ok (.aload_n 0, 1) := by decide +kernel
theorem dX0_resetColours_33 : decode cX0_resetColours 33 = .ok (.getfield 9, 3) := by decide +kernel
theorem dX0_resetColours_36 : decode cX0_resetColours 36 = .ok (.iload_n 2, 1) := by decide +kernel
theorem dX0_resetColours_37 : decode cX0_resetColours 37 = .ok (.iaload, 1) := by decide +kernel
theorem dX0_resetColours_38 : decode cX0_resetColours 38 = .ok (.iastore, 1) := by decide +kernel
theorem dX0_resetColours_39 : decode cX0_resetColours 39 = .ok (.iinc 1 1, 3) := by decide +kernel
theorem dX0_resetColours_42 : decode cX0_resetColours 42 = .ok (.iinc 2 1, 3) := by decide +kernel
theorem dX0_resetColours_45 : decode cX0_resetColours 45 = .ok (.goto (-41), 3) := by decide +kernel
theorem dX0_resetColours_48 : decode cX0_resetColours 48 = .ok (.aload_n 0, 1) := by decide +kernel
theorem dX0_resetColours_49 : decode cX0_resetColours 49 = .ok (.invokevirtual 41, 3) := by decide +kernel
theorem dX0_resetColours_52 : decode cX0_resetColours 52 = .ok (.iload_n 1, 1) := by decide +kernel
theorem dX0_resetColours_53 : decode cX0_resetColours 53 = .ok (.ireturn, 1) := by decide +kernel
theorem dX0_recolour_0 : decode cX0_recolour 0 = .ok (.aload_n 0, 1) := by decide +kernel
theorem dX0_recolour_1 : decode cX0_recolour 1 = .ok (.iload_n 1, 1) := by decide +kernel
theorem dX0_recolour_2 : decode cX0_recolour 2 = .ok (.invokevirtual 44, 3) := by decide +kernel
theorem dX0_recolour_5 : decode cX0_recolour 5 = .ok (.ifCond .ne 5, 3) := by decide +kernel
theorem dX0_recolour_8 : decode cX0_recolour 8 = .ok (.iconst (-1), 1) := by decide +kernel
theorem dX0_recolour_9 : decode cX0_recolour 9 = .ok (.ireturn, 1) := by decide +kernel
theorem dX0_recolour_10 : decode cX0_recolour 10 = .ok (.aload_n 0, 1) := by decide +kernel
theorem dX0_recolour_11 : decode cX0_recolour 11 = .ok (.getfield 21, 3) := by decide +kernel
theorem dX0_recolour_14 : decode cX0_recolour 14 = .ok (.iload_n 1, 1) := by decide +kernel
theorem dX0_recolour_15 : decode cX0_recolour 15 = .ok (.aload_n 0, 1) := by decide +kernel
theorem dX0_recolour_16 : decode cX0_recolour 16 = .ok (.iload_n 1, 1) := by decide +kernel
theorem dX0_recolour_17 : decode cX0_recolour 17 = .ok (.aload_n 0, 1) := by decide +kernel
theorem dX0_recolour_18 : decode cX0_recolour 18 = .ok (.getfield 28, 3) := by decide +kernel
theorem dX0_recolour_21 : decode cX0_recolour 21 = .ok (.invokevirtual 70, 3) := by decide +kernel
theorem dX0_recolour_24 : decode cX0_recolour 24 = .ok (.iastore, 1) := by decide +kernel
theorem dX0_recolour_25 : decode cX0_recolour 25 = .ok (.aload_n 0, 1) := by decide +kernel
theorem dX0_recolour_26 : decode cX0_recolour 26 = .ok (.invokevirtual 41, 3) := by decide +kernel
theorem dX0_recolour_29 : decode cX0_recolour 29 = .ok (.aload_n 0, 1) := by decide +kernel
theorem dX0_recolour_30 : decode cX0_recolour 30 = .ok (.getfield 21, 3) := by decide +kernel
theorem dX0_recolour_33 : decode cX0_recolour 33 = .ok (.iload_n 1, 1) := by decide +kernel
theorem dX0_recolour_34 : decode cX0_recolour 34 = .ok (.iaload, 1) := by decide +kernel
theorem dX0_recolour_35 : decode cX0_recolour 35 = .ok (.ireturn, 1) := by decide +kernel
theorem dX0_colourCount_0 : decode cX0_colourCount 0 = .ok (.iconst 0, 1) := by decide +kernel
theorem dX0_colourCount_1 : decode cX0_colourCount 1 = .ok (.istore_n 1, 1) := by decide +kernel
theorem dX0_colourCount_2 : decode cX0_colourCount 2 = .ok (.iconst 0, 1) := by decide +kernel
theorem dX0_colourCount_3 : decode cX0_colourCount 3 = .ok (.istore_n 2, 1) := by decide +kernel
theorem dX0_colourCount_4 : decode cX0_colourCount 4 = .ok (.iload_n 2, 1) := by decide +kernel
theorem dX0_colourCount_5 : decode cX0_colourCount 5 = .ok (.aload_n 0, 1) := by decide +kernel
theorem dX0_colourCount_6 : decode cX0_colourCount 6 = .ok (.getfield 28, 3) := by decide +kernel
theorem dX0_colourCount_9 : decode cX0_colourCount 9 = .ok (.if_icmp .ge 20, 3) := by decide +kernel
theorem dX0_colourCount_12 : decode cX0_colourCount 12 = .ok (.aload_n 0, 1) := by decide +kernel
theorem dX0_colourCount_13 : decode cX0_colourCount 13 = .ok (.iload_n 2, 1) := by decide +kernel
theorem dX0_colourCount_14 : decode cX0_colourCount 14 = .ok (.invokevirtual 73, 3) := by decide +kernel
theorem dX0_colourCount_17 : decode cX0_colourCount 17 = .ok (.ifCond .eq 6, 3) := by decide +kernel
theorem dX0_colourCount_20 : decode cX0_colourCount 20 = .ok (.iinc 1 1, 3) := by decide +kernel
theorem dX0_colourCount_23 : decode cX0_colourCount 23 = .ok (.iinc 2 1, 3) := by decide +kernel
theorem dX0_colourCount_26 : decode cX0_colourCount 26 = .ok (.goto (-22), 3) := by decide +kernel
theorem dX0_colourCount_29 : decode cX0_colourCount 29 = .ok (.iload_n 1, 1) := by decide +kernel
theorem dX0_colourCount_30 : decode cX0_colourCount 30 = .ok (.ireturn, 1) := by decide +kernel
theorem dX0_greatestColour_0 : decode cX0_greatestColour 0 = .ok (.bipush (-7), 2) := by decide +kernel
theorem dX0_greatestColour_2 : decode cX0_greatestColour 2 = .ok (.istore_n 1, 1) := by decide +kernel
theorem dX0_greatestColour_3 : decode cX0_greatestColour 3 = .ok (.iconst 0, 1) := by decide +kernel
theorem dX0_greatestColour_4 : decode cX0_greatestColour 4 = .ok (.istore_n 2, 1) := by decide +kernel
theorem dX0_greatestColour_5 : decode cX0_greatestColour 5 = .ok (.iload_n 2, 1) := by decide +kernel
theorem dX0_greatestColour_6 : decode cX0_greatestColour 6 = .ok (.aload_n 0, 1) := by decide +kernel
theorem dX0_greatestColour_7 : decode cX0_greatestColour 7 = .ok (.getfield 28, 3) := by decide +kernel
theorem dX0_greatestColour_10 : decode cX0_greatestColour 10 = .ok (.if_icmp .ge 20, 3) := by decide +kernel
theorem dX0_greatestColour_13 : decode cX0_greatestColour 13 = .ok (.iload_n 1, 1) := by decide +kernel
theorem dX0_greatestColour_14 : decode cX0_greatestColour 14 = .ok (.aload_n 0, 1) := by decide +kernel
theorem dX0_greatestColour_15 : decode cX0_greatestColour 15 = .ok (.getfield 21, 3) := by decide +kernel
theorem dX0_greatestColour_18 : decode cX0_greatestColour 18 = .ok (.iload_n 2, 1) := by decide +kernel
theorem dX0_greatestColour_19 : decode cX0_greatestColour 19 = .ok (.iaload, 1) := by decide +kernel
theorem dX0_greatestColour_20 : decode cX0_greatestColour 20 = .ok (.invokestatic 76, 3) := by decide +kernel
theorem dX0_greatestColour_23 : decode cX0_greatestColour 23 = .ok (.istore_n 1, 1) := by decide +kernel
theorem dX0_greatestColour_24 : decode cX0_greatestColour 24 = .ok (.iinc 2 1, 3) := by decide +kernel
theorem dX0_greatestColour_27 : decode cX0_greatestColour 27 = .ok (.goto (-22), 3) := by decide +kernel
theorem dX0_greatestColour_30 : decode cX0_greatestColour 30 = .ok (.iload_n 1, 1) := by decide +kernel
theorem dX0_greatestColour_31 : decode cX0_greatestColour 31 = .ok (.ireturn, 1) := by decide +kernel
theorem dX0_conflictCount_0 : decode cX0_conflictCount 0 = .ok (.iconst 0, 1) := by decide +kernel
theorem dX0_conflictCount_1 : decode cX0_conflictCount 1 = .ok (.istore_n 1, 1) := by decide +kernel
theorem dX0_conflictCount_2 : decode cX0_conflictCount 2 = .ok (.iconst 0, 1) := by decide +kernel
theorem dX0_conflictCount_3 : decode cX0_conflictCount 3 = .ok (.istore_n 2, 1) := by decide +kernel
theorem dX0_conflictCount_4 : decode cX0_conflictCount 4 = .ok (.iload_n 2, 1) := by decide +kernel
theorem dX0_conflictCount_5 : decode cX0_conflictCount 5 = .ok (.aload_n 0, 1) := by decide +kernel
theorem dX0_conflictCount_6 : decode cX0_conflictCount 6 = .ok (.getfield 28, 3) := by decide +kernel
theorem dX0_conflictCount_9 : decode cX0_conflictCount 9 = .ok (.if_icmp .ge 20, 3) := by decide +kernel
theorem dX0_conflictCount_12 : decode cX0_conflictCount 12 = .ok (.aload_n 0, 1) := by decide +kernel
theorem dX0_conflictCount_13 : decode cX0_conflictCount 13 = .ok (.iload_n 2, 1) := by decide +kernel
theorem dX0_conflictCount_14 : decode cX0_conflictCount 14 = .ok (.invokevirtual 81, 3) := by decide +kernel
theorem dX0_conflictCount_17 : decode cX0_conflictCount 17 = .ok (.ifCond .eq 6, 3) := by decide +kernel
theorem dX0_conflictCount_20 : decode cX0_conflictCount 20 = .ok (.iinc 1 1, 3) := by decide +kernel
theorem dX0_conflictCount_23 : decode cX0_conflictCount 23 = .ok (.iinc 2 1, 3) := by decide +kernel
theorem dX0_conflictCount_26 : decode cX0_conflictCount 26 = .ok (.goto (-22), 3) := by decide +kernel
theorem dX0_conflictCount_29 : decode cX0_conflictCount 29 = .ok (.iload_n 1, 1) := by decide +kernel
theorem dX0_conflictCount_30 : decode cX0_conflictCount 30 = .ok (.ireturn, 1) := by decide +kernel
theorem dX0_differingBit_0 : decode cX0_differingBit 0 = .ok (.aload_n 0, 1) := by decide +kernel
theorem dX0_differingBit_1 : decode cX0_differingBit 1 = .ok (.iload_n 1, 1) := by decide +kernel
theorem dX0_differingBit_2 : decode cX0_differingBit 2 = .ok (.invokevirtual 44, 3) := by decide +kernel
theorem dX0_differingBit_5 : decode cX0_differingBit 5 = .ok (.ifCond .ne 5, 3) := by decide +kernel
theorem dX0_differingBit_8 : decode cX0_differingBit 8 = .ok (.iconst (-1), 1) := by decide +kernel
theorem dX0_differingBit_9 : decode cX0_differingBit 9 = .ok (.ireturn, 1) := by decide +kernel
theorem dX0_differingBit_10 : decode cX0_differingBit 10 = .ok (.aload_n 0, 1) := by decide +kernel
theorem dX0_differingBit_11 : decode cX0_differingBit 11 = .ok (.iload_n 1, 1) := by decide +kernel
theorem dX0_differingBit_12 : decode cX0_differingBit 12 = .ok (.invokevirtual 81, 3) := by decide +kernel
theorem dX0_differingBit_15 : decode cX0_differingBit 15 = .ok (.ifCond .eq 6, 3) := by decide +kernel
theorem dX0_differingBit_18 : decode cX0_differingBit 18 = .ok (.bipush (-5), 2) := by decide +kernel
theorem dX0_differingBit_20 : decode cX0_differingBit 20 = .ok (.ireturn, 1) := by decide +kernel
theorem dX0_differingBit_21 : decode cX0_differingBit 21 = .ok (.aload_n 0, 1) := by decide +kernel
theorem dX0_differingBit_22 : decode cX0_differingBit 22 = .ok (.iload_n 1, 1) := by decide +kernel
theorem dX0_differingBit_23 : decode cX0_differingBit 23 = .ok (.invokevirtual 84, 3) := by decide +kernel
theorem dX0_differingBit_26 : decode cX0_differingBit 26 = .ok (.ireturn, 1) := by decide +kernel
theorem dX0_reduce_0 : decode cX0_reduce 0 = .ok (.aload_n 0, 1) := by decide +kernel
theorem dX0_reduce_1 : decode cX0_reduce 1 = .ok (.invokevirtual 87, 3) := by decide +kernel
theorem dX0_reduce_4 : decode cX0_reduce 4 = .ok (.ifCond .ne 6, 3) := by decide +kernel
theorem dX0_reduce_7 : decode cX0_reduce 7 = .ok (.bipush (-5), 2) := by decide +kernel
theorem dX0_reduce_9 : decode cX0_reduce 9 = .ok (.ireturn, 1) := by decide +kernel
theorem dX0_reduce_10 : decode cX0_reduce 10 = .ok (.aload_n 0, 1) := by decide +kernel
theorem dX0_reduce_11 : decode cX0_reduce 11 = .ok (.invokevirtual 91, 3) := by decide +kernel
theorem dX0_reduce_14 : decode cX0_reduce 14 = .ok (.aload_n 0, 1) := by decide +kernel
theorem dX0_reduce_15 : decode cX0_reduce 15 = .ok (.invokevirtual 94, 3) := by decide +kernel
theorem dX0_reduce_18 : decode cX0_reduce 18 = .ok (.ireturn, 1) := by decide +kernel
theorem dX0_shift_0 : decode cX0_shift 0 = .ok (.aload_n 0, 1) := by decide +kernel
theorem dX0_shift_1 : decode cX0_shift 1 = .ok (.invokevirtual 98, 3) := by decide +kernel
theorem dX0_shift_4 : decode cX0_shift 4 = .ok (.ireturn, 1) := by decide +kernel
theorem dX0_eliminate_0 : decode cX0_eliminate 0 = .ok (.iload_n 1, 1) := by decide +kernel
theorem dX0_eliminate_1 : decode cX0_eliminate 1 = .ok (.iconst 3, 1) := by decide +kernel
theorem dX0_eliminate_2 : decode cX0_eliminate 2 = .ok (.if_icmp .lt 10, 3) := by decide +kernel
theorem dX0_eliminate_5 : decode cX0_eliminate 5 = .ok (.iload_n 1, 1) := by decide +kernel
theorem dX0_eliminate_6 : decode cX0_eliminate 6 = .ok (.invokestatic 34, 3) := by decide +kernel
theorem dX0_eliminate_9 : decode cX0_eliminate 9 = .ok (.ifCond .ne 6, 3) := by decide +kernel
theorem dX0_eliminate_12 : decode cX0_eliminate 12 = .ok (.bipush (-2), 2) := by decide +kernel
theorem dX0_eliminate_14 : decode cX0_eliminate 14 = .ok (.ireturn, 1) := by decide +kernel
theorem dX0_eliminate_15 : decode cX0_eliminate 15 = .ok (.aload_n 0, 1) := by decide +kernel
theorem dX0_eliminate_16 : decode cX0_eliminate 16 = .ok (.invokevirtual 87, 3) := by decide +kernel
theorem dX0_eliminate_19 : decode cX0_eliminate 19 = .ok (.ifCond .ne 6, 3) := by decide +kernel
theorem dX0_eliminate_22 : decode cX0_eliminate 22 = .ok (.bipush (-5), 2) := by decide +kernel
theorem dX0_eliminate_24 : decode cX0_eliminate 24 = .ok (.ireturn, 1) := by decide +kernel
theorem dX0_eliminate_25 : decode cX0_eliminate 25 = .ok (.aload_n 0, 1) := by decide +kernel
theorem dX0_eliminate_26 : decode cX0_eliminate 26 = .ok (.iload_n 1, 1) := by decide +kernel
theorem dX0_eliminate_27 : decode cX0_eliminate 27 = .ok (.invokevirtual 101, 3) := by decide +kernel
theorem dX0_eliminate_30 : decode cX0_eliminate 30 = .ok (.ireturn, 1) := by decide +kernel
theorem dX0_reduceToThree_0 : decode cX0_reduceToThree 0 = .ok (.aload_n 0, 1) := by decide +kernel
theorem dX0_reduceToThree_1 : decode cX0_reduceToThree 1 = .ok (.invokevirtual 87, 3) := by decide +kernel
theorem dX0_reduceToThree_4 : decode cX0_reduceToThree 4 = .ok (.ifCond .ne 6, 3) := by decide +kernel
theorem dX0_reduceToThree_7 : decode cX0_reduceToThree 7 = .ok (.bipush (-5), 2) := by decide +kernel
theorem dX0_reduceToThree_9 : decode cX0_reduceToThree 9 = .ok (.ireturn, 1) := by decide +kernel
theorem dX0_reduceToThree_10 : decode cX0_reduceToThree 10 = .ok (.aload_n 0, 1) := by decide +kernel
theorem dX0_reduceToThree_11 : decode cX0_reduceToThree 11 = .ok (.getfield 31, 3) := by decide +kernel
theorem dX0_reduceToThree_14 : decode cX0_reduceToThree 14 = .ok (.istore_n 1, 1) := by decide +kernel
theorem dX0_reduceToThree_15 : decode cX0_reduceToThree 15 = .ok (.iconst 0, 1) := by decide +kernel
theorem dX0_reduceToThree_16 : decode cX0_reduceToThree 16 = .ok (.istore_n 2, 1) := by decide +kernel
theorem dX0_reduceToThree_17 : decode cX0_reduceToThree 17 = .ok (.iload_n 2, 1) := by decide +kernel
theorem dX0_reduceToThree_18 : decode cX0_reduceToThree 18 = .ok (.bipush 16, 2) := by decide +kernel
theorem dX0_reduceToThree_20 : decode cX0_reduceToThree 20 = .ok (.if_icmp .ge 21, 3) := by decide +kernel
theorem dX0_reduceToThree_23 : decode cX0_reduceToThree 23 = .ok (.aload_n 0, 1) := by decide +kernel
theorem dX0_reduceToThree_24 : decode cX0_reduceToThree 24 = .ok (.invokevirtual 94, 3) := by decide +kernel
theorem dX0_reduceToThree_27 : decode cX0_reduceToThree 27 = .ok (.iconst 5, 1) := by decide +kernel
theorem dX0_reduceToThree_28 : decode cX0_reduceToThree 28 = .ok (.if_icmp .le 13, 3) := by decide +kernel
theorem dX0_reduceToThree_31 : decode cX0_reduceToThree 31 = .ok (.aload_n 0, 1) := by decide +kernel
theorem dX0_reduceToThree_32 : decode cX0_reduceToThree 32 = .ok (.invokevirtual 91, 3) := by decide +kernel
theorem dX0_reduceToThree_35 : decode cX0_reduceToThree 35 = .ok (.iinc 2 1, 3) := by decide +kernel
theorem dX0_reduceToThree_38 : decode cX0_reduceToThree 38 = .ok (.goto (-21), 3) := by decide +kernel
theorem dX0_reduceToThree_41 : decode cX0_reduceToThree 41 = .ok (.iconst 5, 1) := by decide +kernel
theorem dX0_reduceToThree_42 : decode cX0_reduceToThree 42 = .ok (.istore_n 2, 1) := by decide +kernel
theorem dX0_reduceToThree_43 : decode cX0_reduceToThree 43 = .ok (.iload_n 2, 1) := by decide +kernel
theorem dX0_reduceToThree_44 : decode cX0_reduceToThree 44 = .ok (.iconst 3, 1) := by decide +kernel
theorem dX0_reduceToThree_45 : decode cX0_reduceToThree 45 = .ok (.if_icmp .lt 20, 3) := by decide +kernel
theorem dX0_reduceToThree_48 : decode cX0_reduceToThree 48 = .ok (.aload_n 0, 1) := by decide +kernel
theorem dX0_reduceToThree_49 : decode cX0_reduceToThree 49 = .ok (.invokevirtual 98, 3) := by decide +kernel
theorem dX0_reduceToThree_52 : decode cX0_reduceToThree 52 = .ok (.pop, 1) := by decide +kernel
theorem dX0_reduceToThree_53 : decode cX0_reduceToThree 53 = .ok (.aload_n 0, 1) := by decide +kernel
theorem dX0_reduceToThree_54 : decode cX0_reduceToThree 54 = .ok (.iload_n 2, 1) := by decide +kernel
theorem dX0_reduceToThree_55 : decode cX0_reduceToThree 55 = .ok (.invokevirtual 101, 3) := by decide +kernel
theorem dX0_reduceToThree_58 : decode cX0_reduceToThree 58 = .ok (.pop, 1) := by decide +kernel
theorem dX0_reduceToThree_59 : decode cX0_reduceToThree 59 = .ok (.iinc 2 (-1), 3) := by decide +kernel
theorem dX0_reduceToThree_62 : decode cX0_reduceToThree 62 = .ok (.goto (-19), 3) := by decide +kernel
theorem dX0_reduceToThree_65 : decode cX0_reduceToThree 65 = .ok (.aload_n 0, 1) := by decide +kernel
theorem dX0_reduceToThree_66 : decode cX0_reduceToThree 66 = .ok (.getfield 31, 3) := by decide +kernel
theorem dX0_reduceToThree_69 : decode cX0_reduceToThree 69 = .ok (.iload_n 1, 1) := by decide +kernel
theorem dX0_reduceToThree_70 : decode cX0_reduceToThree 70 = .ok (.isub, 1) := by decide +kernel
theorem dX0_reduceToThree_71 : decode cX0_reduceToThree 71 = .ok (.ireturn, 1) := by decide +kernel
theorem dX0_roundCount_0 : decode cX0_roundCount 0 = .ok (.aload_n 0, 1) := by decide +kernel
theorem dX0_roundCount_1 : decode cX0_roundCount 1 = .ok (.getfield 31, 3) := by decide +kernel
theorem dX0_roundCount_4 : decode cX0_roundCount 4 = .ok (.ireturn, 1) := by decide +kernel
theorem dX0_pastColour_0 : decode cX0_pastColour 0 = .ok (.aload_n 0, 1) := by decide +kernel
theorem dX0_pastColour_1 : decode cX0_pastColour 1 = .ok (.iload_n 1, 1) := by decide +kernel
theorem dX0_pastColour_2 : decode cX0_pastColour 2 = .ok (.invokevirtual 44, 3) := by decide +kernel
theorem dX0_pastColour_5 : decode cX0_pastColour 5 = .ok (.ifCond .ne 5, 3) := by decide +kernel
theorem dX0_pastColour_8 : decode cX0_pastColour 8 = .ok (.iconst (-1), 1) := by decide +kernel
theorem dX0_pastColour_9 : decode cX0_pastColour 9 = .ok (.ireturn, 1) := by decide +kernel
theorem dX0_pastColour_10 : decode cX0_pastColour 10 = .ok (.iload_n 2, 1) := by decide +kernel
theorem dX0_pastColour_11 : decode cX0_pastColour 11 = .ok (.ifCond .lt 9, 3) := by decide +kernel
theorem dX0_pastColour_14 : decode cX0_pastColour 14 = .ok (.iload_n 2, 1) := by decide +kernel
theorem dX0_pastColour_15 : decode cX0_pastColour 15 = .ok (.bipush 16, 2) := by decide +kernel
theorem dX0_pastColour_17 : decode cX0_pastColour 17 = .ok (.if_icmp .le 6, 3) := by decide +kernel
theorem dX0_pastColour_20 : decode cX0_pastColour 20 = .ok (.bipush (-2), 2) := by decide +kernel
theorem dX0_pastColour_22 : decode cX0_pastColour 22 = .ok (.ireturn, 1) := by decide +kernel
theorem dX0_pastColour_23 : decode cX0_pastColour 23 = .ok (.iload_n 2, 1) := by decide +kernel
theorem dX0_pastColour_24 : decode cX0_pastColour 24 = .ok (.aload_n 0, 1) := by decide +kernel
theorem dX0_pastColour_25 : decode cX0_pastColour 25 = .ok (.getfield 31, 3) := by decide +kernel
theorem dX0_pastColour_28 : decode cX0_pastColour 28 = .ok (.if_icmp .le 6, 3) := by decide +kernel
theorem dX0_pastColour_31 : decode cX0_pastColour 31 = .ok (.bipush (-7), 2) := by decide +kernel
theorem dX0_pastColour_33 : decode cX0_pastColour 33 = .ok (.ireturn, 1) := by decide +kernel
theorem dX0_pastColour_34 : decode cX0_pastColour 34 = .ok (.aload_n 0, 1) := by decide +kernel
theorem dX0_pastColour_35 : decode cX0_pastColour 35 = .ok (.getfield 24, 3) := by decide +kernel
theorem dX0_pastColour_38 : decode cX0_pastColour 38 = .ok (.iload_n 2, 1) := by decide +kernel
theorem dX0_pastColour_39 : decode cX0_pastColour 39 = .ok (.isub, 1) := by decide +kernel
theorem dX0_pastColour_40 : decode cX0_pastColour 40 = .ok (.istore_n 3, 1) := by decide +kernel
theorem dX0_pastColour_41 : decode cX0_pastColour 41 = .ok (.aload_n 0, 1) := by decide +kernel
theorem dX0_pastColour_42 : decode cX0_pastColour 42 = .ok (.getfield 18, 3) := by decide +kernel
theorem dX0_pastColour_45 : decode cX0_pastColour 45 = .ok (.iload_n 3, 1) := by decide +kernel
theorem dX0_pastColour_46 : decode cX0_pastColour 46 = .ok (.ifCond .ge 10, 3) := by decide +kernel
theorem dX0_pastColour_49 : decode cX0_pastColour 49 = .ok (.iload_n 3, 1) := by decide +kernel
theorem dX0_pastColour_50 : decode cX0_pastColour 50 = .ok (.bipush 18, 2) := by decide +kernel
theorem dX0_pastColour_52 : decode cX0_pastColour 52 = .ok (.iadd, 1) := by decide +kernel
theorem dX0_pastColour_53 : decode cX0_pastColour 53 = .ok (.goto 4, 3) := by decide +kernel
theorem dX0_pastColour_56 : decode cX0_pastColour 56 = .ok (.iload_n 3, 1) := by decide +kernel
theorem dX0_pastColour_57 : decode cX0_pastColour 57 = .ok (.aaload, 1) := by decide +kernel
theorem dX0_pastColour_58 : decode cX0_pastColour 58 = .ok (.iload_n 1, 1) := by decide +kernel
theorem dX0_pastColour_59 : decode cX0_pastColour 59 = .ok (.iaload, 1) := by decide +kernel
theorem dX0_pastColour_60 : decode cX0_pastColour 60 = .ok (.ireturn, 1) := by decide +kernel
theorem dX0_inIndependentSet_0 : decode cX0_inIndependentSet 0 = .ok (.aload_n 0, 1) := by decide +kernel
theorem dX0_inIndependentSet_1 : decode cX0_inIndependentSet 1 = .ok (.iload_n 1, 1) := by decide +kernel
theorem dX0_inIndependentSet_2 : decode cX0_inIndependentSet 2 = .ok (.invokevirtual 44, 3) := by decide +kernel
theorem dX0_inIndependentSet_5 : decode cX0_inIndependentSet 5 = .ok (.ifCond .ne 5, 3) := by decide +kernel
theorem dX0_inIndependentSet_8 : decode cX0_inIndependentSet 8 = .ok (.iconst (-1), 1) := by decide +kernel
theorem dX0_inIndependentSet_9 : decode cX0_inIndependentSet 9 = .ok (.ireturn, 1) := by decide +kernel
theorem dX0_inIndependentSet_10 : decode cX0_inIndependentSet 10 = .ok (.aload_n 0, 1) := by decide +kernel
theorem dX0_inIndependentSet_11 : decode cX0_inIndependentSet 11 = .ok (.invokevirtual 87, 3) := by decide +kernel
theorem dX0_inIndependentSet_14 : decode cX0_inIndependentSet 14 = .ok (.ifCond .ne 6, 3) := by decide +kernel
theorem dX0_inIndependentSet_17 : decode cX0_inIndependentSet 17 = .ok (.bipush (-5), 2) := by decide +kernel
theorem dX0_inIndependentSet_19 : decode cX0_inIndependentSet 19 = .ok (.ireturn, 1) := by decide +kernel
theorem dX0_inIndependentSet_20 : decode cX0_inIndependentSet 20 = .ok (.aload_n 0, 1) := by decide +kernel
theorem dX0_inIndependentSet_21 : decode cX0_inIndependentSet 21 = .ok (.invokevirtual 104, 3) := by decide +kernel
theorem dX0_inIndependentSet_24 : decode cX0_inIndependentSet 24 = .ok (.iload_n 1, 1) := by decide +kernel
theorem dX0_inIndependentSet_25 : decode cX0_inIndependentSet 25 = .ok (.invokestatic 63, 3) := by decide +kernel
theorem dX0_inIndependentSet_28 : decode cX0_inIndependentSet 28 = .ok (.ifCond .eq 7, 3) := by decide +kernel
theorem dX0_inIndependentSet_31 : decode cX0_inIndependentSet 31 = .ok (.iconst 1, 1) := by decide +kernel
theorem dX0_inIndependentSet_32 : decode cX0_inIndependentSet 32 = .ok (.goto 4, 3) := by decide +kernel
theorem dX0_inIndependentSet_35 : decode cX0_inIndependentSet 35 = .ok (.iconst 0, 1) := by decide +kernel
theorem dX0_inIndependentSet_36 : decode cX0_inIndependentSet 36 = .ok (.ireturn, 1) := by decide +kernel
theorem dX0_independentSetSize_0 : decode cX0_independentSetSize 0 = .ok (.aload_n 0, 1) := by decide +kernel
theorem dX0_independentSetSize_1 : decode cX0_independentSetSize 1 = .ok (.invokevirtual 87, 3) := by decide +kernel
theorem dX0_independentSetSize_4 : decode cX0_independentSetSize 4 = .ok (.ifCond .ne 6, 3) := by decide +kernel
theorem dX0_independentSetSize_7 : decode cX0_independentSetSize 7 = .ok (.bipush (-5), 2) := by decide +kernel
theorem dX0_independentSetSize_9 : decode cX0_independentSetSize 9 = .ok (.ireturn, 1) := by decide +kernel
theorem dX0_independentSetSize_10 : decode cX0_independentSetSize 10 = .ok (.aload_n 0, 1) := by decide +kernel
theorem dX0_independentSetSize_11 : decode cX0_independentSetSize 11 = .ok (.invokevirtual 104, 3) := by decide +kernel
theorem dX0_independentSetSize_14 : decode cX0_independentSetSize 14 = .ok (.invokestatic 55, 3) := by decide +kernel
theorem dX0_independentSetSize_17 : decode cX0_independentSetSize 17 = .ok (.ireturn, 1) := by decide +kernel
theorem dX0_greatestIndependentSet_0 : decode cX0_greatestIndependentSet 0 = .ok (.aload_n 0, 1) := by decide +kernel
theorem dX0_greatestIndependentSet_1 : decode cX0_greatestIndependentSet 1 = .ok (.iload_n 1, 1) := by decide +kernel
theorem dX0_greatestIndependentSet_2 : decode cX0_greatestIndependentSet 2 = .ok (.invokevirtual 44, 3) := by decide +kernel
theorem dX0_greatestIndependentSet_5 : decode cX0_greatestIndependentSet 5 = .ok (.ifCond .ne 5, 3) := by decide +kernel
theorem dX0_greatestIndependentSet_8 : decode cX0_greatestIndependentSet 8 = .ok (.iconst (-1), 1) := by decide +kernel
theorem dX0_greatestIndependentSet_9 : decode cX0_greatestIndependentSet 9 = .ok (.ireturn, 1) := by decide +kernel
theorem dX0_greatestIndependentSet_10 : decode cX0_greatestIndependentSet 10 = .ok (.aload_n 0, 1) := by decide +kernel
theorem dX0_greatestIndependentSet_11 : decode cX0_greatestIndependentSet 11 = .ok (.iload_n 1, 1) := by decide +kernel
theorem dX0_greatestIndependentSet_12 : decode cX0_greatestIndependentSet 12 = .ok (.invokevirtual 67, 3) := by decide +kernel
theorem dX0_greatestIndependentSet_15 : decode cX0_greatestIndependentSet 15 = .ok (.istore_n 2, 1) := by decide +kernel
theorem dX0_greatestIndependentSet_16 : decode cX0_greatestIndependentSet 16 = .ok (.iconst 0, 1) := by decide +kernel
theorem dX0_greatestIndependentSet_17 : decode cX0_greatestIndependentSet 17 = .ok (.istore_n 3, 1) := by decide +kernel
theorem dX0_greatestIndependentSet_18 : decode cX0_greatestIndependentSet 18 = .ok (.iconst 0, 1) := by decide +kernel
theorem dX0_greatestIndependentSet_19 : decode cX0_greatestIndependentSet 19 = .ok (.istore 4, 2) := by decide +kernel
theorem dX0_greatestIndependentSet_21 : decode cX0_greatestIndependentSet 21 = .ok (.iload 4, 2) := by decide +kernel
theorem dX0_greatestIndependentSet_23 : decode cX0_greatestIndependentSet 23 = .ok (.aload_n 0, 1) := by decide +kernel
theorem dX0_greatestIndependentSet_24 : decode cX0_greatestIndependentSet 24 = .ok (.getfield 28, 3) := by decide +kernel
theorem dX0_greatestIndependentSet_27 : decode cX0_greatestIndependentSet 27 = .ok (.if_icmp .ge 55, 3) := by decide +kernel
theorem dX0_greatestIndependentSet_30 : decode cX0_greatestIndependentSet 30 = .ok (.iload_n 2, 1) := by decide +kernel
theorem dX0_greatestIndependentSet_31 : decode cX0_greatestIndependentSet 31 = .ok (.ifCond .eq 51, 3) := by decide +kernel
theorem dX0_greatestIndependentSet_34 : decode cX0_greatestIndependentSet 34 = .ok (.aload_n 0, 1) := by decide +kernel
theorem dX0_greatestIndependentSet_35 : decode cX0_greatestIndependentSet 35 = .ok (.iload_n 2, 1) := by decide +kernel
theorem dX0_greatestIndependentSet_36 : decode cX0_greatestIndependentSet 36 = .ok (.invokevirtual 107, 3) := by decide +kernel
theorem dX0_greatestIndependentSet_39 : decode cX0_greatestIndependentSet 39 = .ok (.istore 5, 2) := by decide +kernel
theorem dX0_greatestIndependentSet_41 : decode cX0_greatestIndependentSet 41 = .ok (.iload 5, 2) := by decide +kernel
theorem dX0_greatestIndependentSet_43 : decode cX0_greatestIndependentSet 43 = .ok (.bipush (-7), 2) := by decide +kernel
theorem dX0_greatestIndependentSet_45 : decode cX0_greatestIndependentSet 45 = .ok (.if_icmp .ne 12, 3) := by decide +kernel
theorem dX0_greatestIndependentSet_48 : decode cX0_greatestIndependentSet 48 = .ok (.iload_n 3, 1) := by decide +kernel
theorem dX0_greatestIndependentSet_49 : decode cX0_greatestIndependentSet 49 = .ok (.iload_n 2, 1) := by decide +kernel
theorem dX0_greatestIndependentSet_50 : decode cX0_greatestIndependentSet 50 = .ok (.invokestatic 55, 3) := by decide +kernel
theorem dX0_greatestIndependentSet_53 : decode cX0_greatestIndependentSet 53 = .ok (.iconst 2, 1) := by decide +kernel
theorem dX0_greatestIndependentSet_54 : decode cX0_greatestIndependentSet 54 = .ok (.idiv, 1) := by decide +kernel
theorem dX0_greatestIndependentSet_55 : decode cX0_greatestIndependentSet 55 = .ok (.iadd, 1) := by decide +kernel
theorem dX0_greatestIndependentSet_56 : decode cX0_greatestIndependentSet 56 = .ok (.ireturn, 1) := by decide +kernel
theorem dX0_greatestIndependentSet_57 : decode cX0_greatestIndependentSet 57 = .ok (.iload_n 2, 1) := by decide +kernel
theorem dX0_greatestIndependentSet_58 : decode cX0_greatestIndependentSet 58 = .ok (.aload_n 0, 1) := by decide +kernel
theorem dX0_greatestIndependentSet_59 : decode cX0_greatestIndependentSet 59 = .ok (.iload 5, 2) := by decide +kernel
theorem dX0_greatestIndependentSet_61 : decode cX0_greatestIndependentSet 61 = .ok (.invokevirtual 51, 3) := by decide +kernel
theorem dX0_greatestIndependentSet_64 : decode cX0_greatestIndependentSet 64 = .ok (.iconst 1, 1) := by decide +kernel
theorem dX0_greatestIndependentSet_65 : decode cX0_greatestIndependentSet 65 = .ok (.iload 5, 2) := by decide +kernel
theorem dX0_greatestIndependentSet_67 : decode cX0_greatestIndependentSet 67 = .ok (.ishl, 1) := by decide +kernel
theorem dX0_greatestIndependentSet_68 : decode cX0_greatestIndependentSet 68 = .ok (.ior, 1) := by decide +kernel
theorem dX0_greatestIndependentSet_69 : decode cX0_greatestIndependentSet 69 = .ok (.iconst (-1), 1) := by decide +kernel
theorem dX0_greatestIndependentSet_70 : decode cX0_greatestIndependentSet 70 = .ok (.ixor, 1) := by decide +kernel
theorem dX0_greatestIndependentSet_71 : decode cX0_greatestIndependentSet 71 = .ok (.iand, 1) := by decide +kernel
theorem dX0_greatestIndependentSet_72 : decode cX0_greatestIndependentSet 72 = .ok (.istore_n 2, 1) := by decide +kernel
theorem dX0_greatestIndependentSet_73 : decode cX0_greatestIndependentSet 73 = .ok (.iinc 3 1, 3) := by decide +kernel
theorem dX0_greatestIndependentSet_76 : decode cX0_greatestIndependentSet 76 = .ok (.iinc 4 1, 3) := by decide +kernel
theorem dX0_greatestIndependentSet_79 : decode cX0_greatestIndependentSet 79 = .ok (.goto (-58), 3) := by decide +kernel
theorem dX0_greatestIndependentSet_82 : decode cX0_greatestIndependentSet 82 = .ok (.iload_n 3, 1) := by decide +kernel
theorem dX0_greatestIndependentSet_83 : decode cX0_greatestIndependentSet 83 = .ok (.ireturn, 1) := by decide +kernel
theorem dX0_isNode_0 : decode cX0_isNode 0 = .ok (.iload_n 1, 1) := by decide +kernel
theorem dX0_isNode_1 : decode cX0_isNode 1 = .ok (.ifCond .lt 15, 3) := by decide +kernel
theorem dX0_isNode_4 : decode cX0_isNode 4 = .ok (.iload_n 1, 1) := by decide +kernel
theorem dX0_isNode_5 : decode cX0_isNode 5 = .ok (.aload_n 0, 1) := by decide +kernel
theorem dX0_isNode_6 : decode cX0_isNode 6 = .ok (.getfield 28, 3) := by decide +kernel
theorem dX0_isNode_9 : decode cX0_isNode 9 = .ok (.if_icmp .ge 7, 3) := by decide +kernel
theorem dX0_isNode_12 : decode cX0_isNode 12 = .ok (.iconst 1, 1) := by decide +kernel
theorem dX0_isNode_13 : decode cX0_isNode 13 = .ok (.goto 4, 3) := by decide +kernel
theorem dX0_isNode_16 : decode cX0_isNode 16 = .ok (.iconst 0, 1) := by decide +kernel
theorem dX0_isNode_17 : decode cX0_isNode 17 = .ok (.ireturn, 1) := by decide +kernel
theorem dX0_isValue_0 : decode cX0_isValue 0 = .ok (.iload_n 0, 1) := by decide +kernel
theorem dX0_isValue_1 : decode cX0_isValue 1 = .ok (.ifCond .lt 13, 3) := by decide +kernel
theorem dX0_isValue_4 : decode cX0_isValue 4 = .ok (.iload_n 0, 1) := by decide +kernel
theorem dX0_isValue_5 : decode cX0_isValue 5 = .ok (.ldc 110, 2) := by decide +kernel
theorem dX0_isValue_7 : decode cX0_isValue 7 = .ok (.if_icmp .gt 7, 3) := by decide +kernel
theorem dX0_isValue_10 : decode cX0_isValue 10 = .ok (.iconst 1, 1) := by decide +kernel
theorem dX0_isValue_11 : decode cX0_isValue 11 = .ok (.goto 4, 3) := by decide +kernel
theorem dX0_isValue_14 : decode cX0_isValue 14 = .ok (.iconst 0, 1) := by decide +kernel
theorem dX0_isValue_15 : decode cX0_isValue 15 = .ok (.ireturn, 1) := by decide +kernel
theorem dX0_isIdentifierTaken_0 : decode cX0_isIdentifierTaken 0 = .ok (.iconst 0, 1) := by decide +kernel
theorem dX0_isIdentifierTaken_1 : decode cX0_isIdentifierTaken 1 = .ok (.istore_n 2, 1) := by decide +kernel
theorem dX0_isIdentifierTaken_2 : decode cX0_isIdentifierTaken 2 = .ok (.iload_n 2, 1) := by decide +kernel
theorem dX0_isIdentifierTaken_3 : decode cX0_isIdentifierTaken 3 = .ok (.aload_n 0, 1) := by decide +kernel
theorem dX0_isIdentifierTaken_4 : decode cX0_isIdentifierTaken 4 = .ok (.getfield 28, 3) := by decide +kernel
theorem dX0_isIdentifierTaken_7 : decode cX0_isIdentifierTaken 7 = .ok (.if_icmp .ge 21, 3) := by decide +kernel
theorem dX0_isIdentifierTaken_10 : decode cX0_isIdentifierTaken 10 = .ok (.aload_n 0, 1) := by decide +kernel
theorem dX0_isIdentifierTaken_11 : decode cX0_isIdentifierTaken 11 = .ok (.getfield 9, 3) := by decide +kernel
theorem dX0_isIdentifierTaken_14 : decode cX0_isIdentifierTaken 14 = .ok (.iload_n 2, 1) := by decide +kernel
theorem dX0_isIdentifierTaken_15 : decode cX0_isIdentifierTaken 15 = .ok (.iaload, 1) := by decide +kernel
theorem dX0_isIdentifierTaken_16 : decode cX0_isIdentifierTaken 16 = .ok (.iload_n 1, 1) := by decide +kernel
theorem dX0_isIdentifierTaken_17 : decode cX0_isIdentifierTaken 17 = .ok (.if_icmp .ne 5, 3) := by decide +kernel
theorem dX0_isIdentifierTaken_20 : decode cX0_isIdentifierTaken 20 = .ok (.iconst 1, 1) := by decide +kernel
theorem dX0_isIdentifierTaken_21 : decode cX0_isIdentifierTaken 21 = .ok (.ireturn, 1) := by decide +kernel
theorem dX0_isIdentifierTaken_22 : decode cX0_isIdentifierTaken 22 = .ok (.iinc 2 1, 3) := by decide +kernel
theorem dX0_isIdentifierTaken_25 : decode cX0_isIdentifierTaken 25 = .ok (.goto (-23), 3) := by decide +kernel
theorem dX0_isIdentifierTaken_28 : decode cX0_isIdentifierTaken 28 = .ok (.iconst 0, 1) := by decide +kernel
theorem dX0_isIdentifierTaken_29 : decode cX0_isIdentifierTaken 29 = .ok (.ireturn, 1) := by decide +kernel
theorem dX0_isRoot_0 : decode cX0_isRoot 0 = .ok (.aload_n 0, 1) := by decide +kernel
theorem dX0_isRoot_1 : decode cX0_isRoot 1 = .ok (.aload_n 0, 1) := by decide +kernel
theorem dX0_isRoot_2 : decode cX0_isRoot 2 = .ok (.getfield 13, 3) := by decide +kernel
theorem dX0_isRoot_5 : decode cX0_isRoot 5 = .ok (.iload_n 1, 1) := by decide +kernel
theorem dX0_isRoot_6 : decode cX0_isRoot 6 = .ok (.iaload, 1) := by decide +kernel
theorem dX0_isRoot_7 : decode cX0_isRoot 7 = .ok (.invokevirtual 44, 3) := by decide +kernel
theorem dX0_isRoot_10 : decode cX0_isRoot 10 = .ok (.ifCond .ne 7, 3) := by decide +kernel
theorem dX0_isRoot_13 : decode cX0_isRoot 13 = .ok (.iconst 1, 1) := by decide +kernel
theorem dX0_isRoot_14 : decode cX0_isRoot 14 = .ok (.goto 4, 3) := by decide +kernel
theorem dX0_isRoot_17 : decode cX0_isRoot 17 = .ok (.iconst 0, 1) := by decide +kernel
theorem dX0_isRoot_18 : decode cX0_isRoot 18 = .ok (.ireturn, 1) := by decide +kernel
theorem dX0_replaceParent_0 : decode cX0_replaceParent 0 = .ok (.aload_n 0, 1) := by decide +kernel
theorem dX0_replaceParent_1 : decode cX0_replaceParent 1 = .ok (.getfield 13, 3) := by decide +kernel
theorem dX0_replaceParent_4 : decode cX0_replaceParent 4 = .ok (.iload_n 1, 1) := by decide +kernel
theorem dX0_replaceParent_5 : decode cX0_replaceParent 5 = .ok (.iaload, 1) := by decide +kernel
theorem dX0_replaceParent_6 : decode cX0_replaceParent 6 = .ok (.istore_n 3, 1) := by decide +kernel
theorem dX0_replaceParent_7 : decode cX0_replaceParent 7 = .ok (.aload_n 0, 1) := by decide +kernel
theorem dX0_replaceParent_8 : decode cX0_replaceParent 8 = .ok (.getfield 13, 3) := by decide +kernel
theorem dX0_replaceParent_11 : decode cX0_replaceParent 11 = .ok (.iload_n 1, 1) := by decide +kernel
theorem dX0_replaceParent_12 : decode cX0_replaceParent 12 = .ok (.iload_n 2, 1) := by decide +kernel
theorem dX0_replaceParent_13 : decode cX0_replaceParent 13 = .ok (.iastore, 1) := by decide +kernel
theorem dX0_replaceParent_14 : decode cX0_replaceParent 14 = .ok (.aload_n 0, 1) := by decide +kernel
theorem dX0_replaceParent_15 : decode cX0_replaceParent 15 = .ok (.invokevirtual 41, 3) := by decide +kernel
theorem dX0_replaceParent_18 : decode cX0_replaceParent 18 = .ok (.iload_n 3, 1) := by decide +kernel
theorem dX0_replaceParent_19 : decode cX0_replaceParent 19 = .ok (.ireturn, 1) := by decide +kernel
theorem dX0_isIn_0 : decode cX0_isIn 0 = .ok (.iload_n 0, 1) := by decide +kernel
theorem dX0_isIn_1 : decode cX0_isIn 1 = .ok (.iload_n 1, 1) := by decide +kernel
theorem dX0_isIn_2 : decode cX0_isIn 2 = .ok (.ishr, 1) := by decide +kernel
theorem dX0_isIn_3 : decode cX0_isIn 3 = .ok (.iconst 1, 1) := by decide +kernel
theorem dX0_isIn_4 : decode cX0_isIn 4 = .ok (.iand, 1) := by decide +kernel
theorem dX0_isIn_5 : decode cX0_isIn 5 = .ok (.iconst 1, 1) := by decide +kernel
theorem dX0_isIn_6 : decode cX0_isIn 6 = .ok (.if_icmp .ne 7, 3) := by decide +kernel
theorem dX0_isIn_9 : decode cX0_isIn 9 = .ok (.iconst 1, 1) := by decide +kernel
theorem dX0_isIn_10 : decode cX0_isIn 10 = .ok (.goto 4, 3) := by decide +kernel
theorem dX0_isIn_13 : decode cX0_isIn 13 = .ok (.iconst 0, 1) := by decide +kernel
theorem dX0_isIn_14 : decode cX0_isIn 14 = .ok (.ireturn, 1) := by decide +kernel
theorem dX0_areNeighbours_0 : decode cX0_areNeighbours 0 = .ok (.aload_n 0, 1) := by decide +kernel
theorem dX0_areNeighbours_1 : decode cX0_areNeighbours 1 = .ok (.getfield 13, 3) := by decide +kernel
theorem dX0_areNeighbours_4 : decode cX0_areNeighbours 4 = .ok (.iload_n 1, 1) := by decide +kernel
theorem dX0_areNeighbours_5 : decode cX0_areNeighbours 5 = .ok (.iaload, 1) := by decide +kernel
theorem dX0_areNeighbours_6 : decode cX0_areNeighbours 6 = .ok (.iload_n 2, 1) := by decide +kernel
theorem dX0_areNeighbours_7 : decode cX0_areNeighbours 7 = .ok (.if_icmp .eq 13, 3) := by decide +kernel
theorem dX0_areNeighbours_10 : decode cX0_areNeighbours 10 = .ok (.aload_n 0, 1) := by decide +kernel
theorem dX0_areNeighbours_11 : decode cX0_areNeighbours 11 = .ok (.getfield 13, 3) := by decide +kernel
theorem dX0_areNeighbours_14 : decode cX0_areNeighbours 14 = .ok (.iload_n 2, 1) := by decide +kernel
theorem dX0_areNeighbours_15 : decode cX0_areNeighbours 15 = .ok (.iaload, 1) := by decide +kernel
theorem dX0_areNeighbours_16 : decode cX0_areNeighbours 16 = .ok (.iload_n 1, 1) := by decide +kernel
theorem dX0_areNeighbours_17 : decode cX0_areNeighbours 17 = .ok (.if_icmp .ne 7, 3) := by decide +kernel
theorem dX0_areNeighbours_20 : decode cX0_areNeighbours 20 = .ok (.iconst 1, 1) := by decide +kernel
theorem dX0_areNeighbours_21 : decode cX0_areNeighbours 21 = .ok (.goto 4, 3) := by decide +kernel
theorem dX0_areNeighbours_24 : decode cX0_areNeighbours 24 = .ok (.iconst 0, 1) := by decide +kernel
theorem dX0_areNeighbours_25 : decode cX0_areNeighbours 25 = .ok (.ireturn, 1) := by decide +kernel
theorem dX0_neighbours_0 : decode cX0_neighbours 0 = .ok (.iconst 0, 1) := by decide +kernel
theorem dX0_neighbours_1 : decode cX0_neighbours 1 = .ok (.istore_n 2, 1) := by decide +kernel
theorem dX0_neighbours_2 : decode cX0_neighbours 2 = .ok (.iconst 0, 1) := by decide +kernel
theorem dX0_neighbours_3 : decode cX0_neighbours 3 = .ok (.istore_n 3, 1) := by decide +kernel
theorem dX0_neighbours_4 : decode cX0_neighbours 4 = .ok (.iload_n 3, 1) := by decide +kernel
theorem dX0_neighbours_5 : decode cX0_neighbours 5 = .ok (.aload_n 0, 1) := by decide +kernel
theorem dX0_neighbours_6 : decode cX0_neighbours 6 = .ok (.getfield 28, 3) := by decide +kernel
theorem dX0_neighbours_9 : decode cX0_neighbours 9 = .ok (.if_icmp .ge 24, 3) := by decide +kernel
theorem dX0_neighbours_12 : decode cX0_neighbours 12 = .ok (.aload_n 0, 1) := by decide +kernel
theorem dX0_neighbours_13 : decode cX0_neighbours 13 = .ok (.iload_n 1, 1) := by decide +kernel
theorem dX0_neighbours_14 : decode cX0_neighbours 14 = .ok (.iload_n 3, 1) := by decide +kernel
theorem dX0_neighbours_15 : decode cX0_neighbours 15 = .ok (.invokevirtual 111, 3) := by decide +kernel
theorem dX0_neighbours_18 : decode cX0_neighbours 18 = .ok (.ifCond .eq 9, 3) := by decide +kernel
theorem dX0_neighbours_21 : decode cX0_neighbours 21 = .ok (.iload_n 2, 1) := by decide +kernel
theorem dX0_neighbours_22 : decode cX0_neighbours 22 = .ok (.iconst 1, 1) := by decide +kernel
theorem dX0_neighbours_23 : decode cX0_neighbours 23 = .ok (.iload_n 3, 1) := by decide +kernel
theorem dX0_neighbours_24 : decode cX0_neighbours 24 = .ok (.ishl, 1) := by decide +kernel
theorem dX0_neighbours_25 : decode cX0_neighbours 25 = .ok (.ior, 1) := by decide +kernel
theorem dX0_neighbours_26 : decode cX0_neighbours 26 = .ok (.istore_n 2, 1) := by decide +kernel
theorem dX0_neighbours_27 : decode cX0_neighbours 27 = .ok (.iinc 3 1, 3) := by decide +kernel
theorem dX0_neighbours_30 : decode cX0_neighbours 30 = .ok (.goto (-26), 3) := by decide +kernel
theorem dX0_neighbours_33 : decode cX0_neighbours 33 = .ok (.iload_n 2, 1) := by decide +kernel
theorem dX0_neighbours_34 : decode cX0_neighbours 34 = .ok (.ireturn, 1) := by decide +kernel
theorem dX0_part_0 : decode cX0_part 0 = .ok (.iconst 1, 1) := by decide +kernel
theorem dX0_part_1 : decode cX0_part 1 = .ok (.iload_n 1, 1) := by decide +kernel
theorem dX0_part_2 : decode cX0_part 2 = .ok (.ishl, 1) := by decide +kernel
theorem dX0_part_3 : decode cX0_part 3 = .ok (.istore_n 2, 1) := by decide +kernel
theorem dX0_part_4 : decode cX0_part 4 = .ok (.iconst 0, 1) := by decide +kernel
theorem dX0_part_5 : decode cX0_part 5 = .ok (.istore_n 3, 1) := by decide +kernel
theorem dX0_part_6 : decode cX0_part 6 = .ok (.iload_n 3, 1) := by decide +kernel
theorem dX0_part_7 : decode cX0_part 7 = .ok (.aload_n 0, 1) := by decide +kernel
theorem dX0_part_8 : decode cX0_part 8 = .ok (.getfield 28, 3) := by decide +kernel
theorem dX0_part_11 : decode cX0_part 11 = .ok (.if_icmp .ge 27, 3) := by decide +kernel
theorem dX0_part_14 : decode cX0_part 14 = .ok (.aload_n 0, 1) := by decide +kernel
theorem dX0_part_15 : decode cX0_part 15 = .ok (.iload_n 2, 1) := by decide +kernel
theorem dX0_part_16 : decode cX0_part 16 = .ok (.invokevirtual 114, 3) := by decide +kernel
theorem dX0_part_19 : decode cX0_part 19 = .ok (.istore 4, 2) := by decide +kernel
theorem dX0_part_21 : decode cX0_part 21 = .ok (.iload 4, 2) := by decide +kernel
theorem dX0_part_23 : decode cX0_part 23 = .ok (.iload_n 2, 1) := by decide +kernel
theorem dX0_part_24 : decode cX0_part 24 = .ok (.if_icmp .ne 5, 3) := by decide +kernel
theorem dX0_part_27 : decode cX0_part 27 = .ok (.iload_n 2, 1) := by decide +kernel
theorem dX0_part_28 : decode cX0_part 28 = .ok (.ireturn, 1) := by decide +kernel
theorem dX0_part_29 : decode cX0_part 29 = .ok (.iload 4, 2) := by decide +kernel
theorem dX0_part_31 : decode cX0_part 31 = .ok (.istore_n 2, 1) := by decide +kernel
theorem dX0_part_32 : decode cX0_part 32 = .ok (.iinc 3 1, 3) := by decide +kernel
theorem dX0_part_35 : decode cX0_part 35 = .ok (.goto (-29), 3) := by decide +kernel
theorem dX0_part_38 : decode cX0_part 38 = .ok (.iload_n 2, 1) := by decide +kernel
theorem dX0_part_39 : decode cX0_part 39 = .ok (.ireturn, 1) := by decide +kernel
theorem dX0_widened_0 : decode cX0_widened 0 = .ok (.iload_n 1, 1) := by decide +kernel
theorem dX0_widened_1 : decode cX0_widened 1 = .ok (.istore_n 2, 1) := by decide +kernel
theorem dX0_widened_2 : decode cX0_widened 2 = .ok (.iconst 0, 1) := by decide +kernel
theorem dX0_widened_3 : decode cX0_widened 3 = .ok (.istore_n 3, 1) := by decide +kernel
theorem dX0_widened_4 : decode cX0_widened 4 = .ok (.iload_n 3, 1) := by decide +kernel
theorem dX0_widened_5 : decode cX0_widened 5 = .ok (.aload_n 0, 1) := by decide +kernel
theorem dX0_widened_6 : decode cX0_widened 6 = .ok (.getfield 28, 3) := by decide +kernel
theorem dX0_widened_9 : decode cX0_widened 9 = .ok (.if_icmp .ge 53, 3) := by decide +kernel
theorem dX0_widened_12 : decode cX0_widened 12 = .ok (.aload_n 0, 1) := by decide +kernel
theorem dX0_widened_13 : decode cX0_widened 13 = .ok (.iload_n 3, 1) := by decide +kernel
theorem dX0_widened_14 : decode cX0_widened 14 = .ok (.invokevirtual 60, 3) := by decide +kernel
theorem dX0_widened_17 : decode cX0_widened 17 = .ok (.ifCond .ne 39, 3) := by decide +kernel
theorem dX0_widened_20 : decode cX0_widened 20 = .ok (.iload_n 2, 1) := by decide +kernel
theorem dX0_widened_21 : decode cX0_widened 21 = .ok (.iload_n 3, 1) := by decide +kernel
theorem dX0_widened_22 : decode cX0_widened 22 = .ok (.invokestatic 63, 3) := by decide +kernel
theorem dX0_widened_25 : decode cX0_widened 25 = .ok (.ifCond .ne 16, 3) := by decide +kernel
theorem dX0_widened_28 : decode cX0_widened 28 = .ok (.iload_n 2, 1) := by decide +kernel
theorem dX0_widened_29 : decode cX0_widened 29 = .ok (.aload_n 0, 1) := by decide +kernel
theorem dX0_widened_30 : decode cX0_widened 30 = .ok (.getfield 13, 3) := by decide +kernel
theorem dX0_widened_33 : decode cX0_widened 33 = .ok (.iload_n 3, 1) := by decide +kernel
theorem dX0_widened_34 : decode cX0_widened 34 = .ok (.iaload, 1) := by decide +kernel
theorem dX0_widened_35 : decode cX0_widened 35 = .ok (.invokestatic 63, 3) := by decide +kernel
theorem dX0_widened_38 : decode cX0_widened 38 = .ok (.ifCond .eq 18, 3) := by decide +kernel
theorem dX0_widened_41 : decode cX0_widened 41 = .ok (.iload_n 2, 1) := by decide +kernel
theorem dX0_widened_42 : decode cX0_widened 42 = .ok (.iconst 1, 1) := by decide +kernel
theorem dX0_widened_43 : decode cX0_widened 43 = .ok (.iload_n 3, 1) := by decide +kernel
theorem dX0_widened_44 : decode cX0_widened 44 = .ok (.ishl, 1) := by decide +kernel
theorem dX0_widened_45 : decode cX0_widened 45 = .ok (.iconst 1, 1) := by decide +kernel
theorem dX0_widened_46 : decode cX0_widened 46 = .ok (.aload_n 0, 1) := by decide +kernel
theorem dX0_widened_47 : decode cX0_widened 47 = .ok (.getfield 13, 3) := by decide +kernel
theorem dX0_widened_50 : decode cX0_widened 50 = .ok (.iload_n 3, 1) := by decide +kernel
theorem dX0_widened_51 : decode cX0_widened 51 = .ok (.iaload, 1) := by decide +kernel
theorem dX0_widened_52 : decode cX0_widened 52 = .ok (.ishl, 1) := by decide +kernel
theorem dX0_widened_53 : decode cX0_widened 53 = .ok (.ior, 1) := by decide +kernel
theorem dX0_widened_54 : decode cX0_widened 54 = .ok (.ior, 1) := by decide +kernel
theorem dX0_widened_55 : decode cX0_widened 55 = .ok (.istore_n 2, 1) := by decide +kernel
theorem dX0_widened_56 : decode cX0_widened 56 = .ok (.iinc 3 1, 3) := by decide +kernel
theorem dX0_widened_59 : decode cX0_widened 59 = .ok (.goto (-55), 3) := by decide +kernel
theorem dX0_widened_62 : decode cX0_widened 62 = .ok (.iload_n 2, 1) := by decide +kernel
theorem dX0_widened_63 : decode cX0_widened 63 = .ok (.ireturn, 1) := by decide +kernel
theorem dX0_isProper_0 : decode cX0_isProper 0 = .ok (.aload_n 0, 1) := by decide +kernel
theorem dX0_isProper_1 : decode cX0_isProper 1 = .ok (.invokevirtual 117, 3) := by decide +kernel
theorem dX0_isProper_4 : decode cX0_isProper 4 = .ok (.ifCond .ne 7, 3) := by decide +kernel
theorem dX0_isProper_7 : decode cX0_isProper 7 = .ok (.iconst 1, 1) := by decide +kernel
theorem dX0_isProper_8 : decode cX0_isProper 8 = .ok (.goto 4, 3) := by decide +kernel
theorem dX0_isProper_11 : decode cX0_isProper 11 = .ok (.iconst 0, 1) := by decide +kernel
theorem dX0_isProper_12 : decode cX0_isProper 12 = .ok (.ireturn, 1) := by decide +kernel
theorem dX0_isInConflict_0 : decode cX0_isInConflict 0 = .ok (.aload_n 0, 1) := by decide +kernel
theorem dX0_isInConflict_1 : decode cX0_isInConflict 1 = .ok (.iload_n 1, 1) := by decide +kernel
theorem dX0_isInConflict_2 : decode cX0_isInConflict 2 = .ok (.invokevirtual 60, 3) := by decide +kernel
theorem dX0_isInConflict_5 : decode cX0_isInConflict 5 = .ok (.ifCond .ne 27, 3) := by decide +kernel
theorem dX0_isInConflict_8 : decode cX0_isInConflict 8 = .ok (.aload_n 0, 1) := by decide +kernel
theorem dX0_isInConflict_9 : decode cX0_isInConflict 9 = .ok (.getfield 21, 3) := by decide +kernel
theorem dX0_isInConflict_12 : decode cX0_isInConflict 12 = .ok (.iload_n 1, 1) := by decide +kernel
theorem dX0_isInConflict_13 : decode cX0_isInConflict 13 = .ok (.iaload, 1) := by decide +kernel
theorem dX0_isInConflict_14 : decode cX0_isInConflict 14 = .ok (.aload_n 0, 1) := by decide +kernel
theorem dX0_isInConflict_15 : decode cX0_isInConflict 15 = .ok (.getfield 21, 3) := by decide +kernel
theorem dX0_isInConflict_18 : decode cX0_isInConflict 18 = .ok (.aload_n 0, 1) := by decide +kernel
theorem dX0_isInConflict_19 : decode cX0_isInConflict 19 = .ok (.getfield 13, 3) := by decide +kernel
theorem dX0_isInConflict_22 : decode cX0_isInConflict 22 = .ok (.iload_n 1, 1) := by decide +kernel
theorem dX0_isInConflict_23 : decode cX0_isInConflict 23 = .ok (.iaload, 1) := by decide +kernel
theorem dX0_isInConflict_24 : decode cX0_isInConflict 24 = .ok (.iaload, 1) := by decide +kernel
theorem dX0_isInConflict_25 : decode cX0_isInConflict 25 = .ok (.if_icmp .ne 7, 3) := by decide +kernel
theorem dX0_isInConflict_28 : decode cX0_isInConflict 28 = .ok (.iconst 1, 1) := by decide +kernel
theorem dX0_isInConflict_29 : decode cX0_isInConflict 29 = .ok (.goto 4, 3) := by decide +kernel
theorem dX0_isInConflict_32 : decode cX0_isInConflict 32 = .ok (.iconst 0, 1) := by decide +kernel
theorem dX0_isInConflict_33 : decode cX0_isInConflict 33 = .ok (.ireturn, 1) := by decide +kernel
theorem dX0_isFirstOfItsColour_0 : decode cX0_isFirstOfItsColour 0 = .ok (.iconst 0, 1) := by decide +kernel
theorem dX0_isFirstOfItsColour_1 : decode cX0_isFirstOfItsColour 1 = .ok (.istore_n 2, 1) := by decide +kernel
theorem dX0_isFirstOfItsColour_2 : decode cX0_isFirstOfItsColour 2 = .ok (.iload_n 2, 1) := by decide +kernel
theorem dX0_isFirstOfItsColour_3 : decode cX0_isFirstOfItsColour 3 = .ok (.iload_n 1, 1) := by decide +kernel
theorem dX0_isFirstOfItsColour_4 : decode cX0_isFirstOfItsColour 4 = .ok (.if_icmp .ge 26, 3) := by decide +kernel
theorem dX0_isFirstOfItsColour_7 : decode cX0_isFirstOfItsColour 7 = .ok (.aload_n 0, 1) := by decide +kernel
theorem dX0_isFirstOfItsColour_8 : decode cX0_isFirstOfItsColour 8 = .ok (.getfield 21, 3) := by decide +kernel
theorem dX0_isFirstOfItsColour_11 : decode cX0_isFirstOfItsColour 11 = .ok (.iload_n 2, 1) := by decide +kernel
theorem dX0_isFirstOfItsColour_12 : decode cX0_isFirstOfItsColour 12 = .ok (.iaload, 1) := by decide +kernel
theorem dX0_isFirstOfItsColour_13 : decode cX0_isFirstOfItsColour 13 = .ok (.aload_n 0, 1) := by decide +kernel
theorem dX0_isFirstOfItsColour_14 : decode cX0_isFirstOfItsColour 14 = .ok (.getfield 21, 3) := by decide +kernel
theorem dX0_isFirstOfItsColour_17 : decode cX0_isFirstOfItsColour 17 = .ok (.iload_n 1, 1) := by decide +kernel
theorem dX0_isFirstOfItsColour_18 : decode cX0_isFirstOfItsColour 18 = .ok (.iaload, 1) := by decide +kernel
theorem dX0_isFirstOfItsColour_19 : decode cX0_isFirstOfItsColour 19 = .ok (.if_icmp .ne 5, 3) := by decide +kernel
theorem dX0_isFirstOfItsColour_22 : decode cX0_isFirstOfItsColour 22 = .ok (.iconst 0, 1) := by decide +kernel
theorem dX0_isFirstOfItsColour_23 : decode cX0_isFirstOfItsColour 23 = .ok (.ireturn, 1) := by decide +kernel
theorem dX0_isFirstOfItsColour_24 : decode cX0_isFirstOfItsColour 24 = .ok (.iinc 2 1, 3) := by decide +kernel
theorem dX0_isFirstOfItsColour_27 : decode cX0_isFirstOfItsColour 27 = .ok (.goto (-25), 3) := by decide +kernel
theorem dX0_isFirstOfItsColour_30 : decode cX0_isFirstOfItsColour 30 = .ok (.iconst 1, 1) := by decide +kernel
theorem dX0_isFirstOfItsColour_31 : decode cX0_isFirstOfItsColour 31 = .ok (.ireturn, 1) := by decide +kernel
theorem dX0_hasNeighbourOfColour_0 : decode cX0_hasNeighbourOfColour 0 = .ok (.iconst 0, 1) := by decide +kernel
theorem dX0_hasNeighbourOfColour_1 : decode cX0_hasNeighbourOfColour 1 = .ok (.istore_n 3, 1) := by decide +kernel
theorem dX0_hasNeighbourOfColour_2 : decode cX0_hasNeighbourOfColour 2 = .ok (.iload_n 3, 1) := by decide +kernel
theorem dX0_hasNeighbourOfColour_3 : decode cX0_hasNeighbourOfColour 3 = .ok (.aload_n 0, 1) := by decide +kernel
theorem dX0_hasNeighbourOfColour_4 : decode cX0_hasNeighbourOfColour 4 = .ok (.getfield 28, 3) := by decide +kernel
theorem dX0_hasNeighbourOfColour_7 : decode cX0_hasNeighbourOfColour 7 = .ok (.if_icmp .ge 30, 3) := by decide +kernel
theorem dX0_hasNeighbourOfColour_10 : decode cX0_hasNeighbourOfColour 10 = .ok (.aload_n 0, 1) := by decide +kernel
theorem dX0_hasNeighbourOfColour_11 : decode cX0_hasNeighbourOfColour 11 = .ok (.getfield 21, 3) := by decide +kernel
theorem dX0_hasNeighbourOfColour_14 : decode cX0_hasNeighbourOfColour 14 = .ok (.iload_n 3, 1) := by decide +kernel
theorem dX0_hasNeighbourOfColour_15 : decode cX0_hasNeighbourOfColour 15 = .ok (.iaload, 1) := by decide +kernel
theorem dX0_hasNeighbourOfColour_16 : decode cX0_hasNeighbourOfColour 16 = .ok (.iload_n 2, 1) := by decide +kernel
theorem dX0_hasNeighbourOfColour_17 : decode cX0_hasNeighbourOfColour 17 = .ok (.if_icmp .ne 14, 3) := by decide +kernel
theorem dX0_hasNeighbourOfColour_20 : decode cX0_hasNeighbourOfColour 20 = .ok (.aload_n 0, 1) := by decide +kernel
theorem dX0_hasNeighbourOfColour_21 : decode cX0_hasNeighbourOfColour 21 = .ok (.iload_n 1, 1) := by decide +kernel
theorem dX0_hasNeighbourOfColour_22 : decode cX0_hasNeighbourOfColour 22 = .ok (.iload_n 3, 1) := by decide +kernel
theorem dX0_hasNeighbourOfColour_23 : decode cX0_hasNeighbourOfColour 23 = .ok (.invokevirtual 111, 3) := by decide +kernel
theorem dX0_hasNeighbourOfColour_26 : decode cX0_hasNeighbourOfColour 26 = .ok (.ifCond .eq 5, 3) := by decide +kernel
theorem dX0_hasNeighbourOfColour_29 : decode cX0_hasNeighbourOfColour 29 = .ok (.iconst 1, 1) := by decide +kernel
theorem dX0_hasNeighbourOfColour_30 : decode cX0_hasNeighbourOfColour 30 = .ok (.ireturn, 1) := by decide +kernel
theorem dX0_hasNeighbourOfColour_31 : decode cX0_hasNeighbourOfColour 31 = .ok (.iinc 3 1, 3) := by decide +kernel
theorem dX0_hasNeighbourOfColour_34 : decode cX0_hasNeighbourOfColour 34 = .ok (.goto (-32), 3) := by decide +kernel
theorem dX0_hasNeighbourOfColour_37 : decode cX0_hasNeighbourOfColour 37 = .ok (.iconst 0, 1) := by decide +kernel
theorem dX0_hasNeighbourOfColour_38 : decode cX0_hasNeighbourOfColour 38 = .ok (.ireturn, 1) := by decide +kernel
theorem dX0_lowestFreeColour_0 : decode cX0_lowestFreeColour 0 = .ok (.iconst 0, 1) := by decide +kernel
theorem dX0_lowestFreeColour_1 : decode cX0_lowestFreeColour 1 = .ok (.istore_n 3, 1) := by decide +kernel
theorem dX0_lowestFreeColour_2 : decode cX0_lowestFreeColour 2 = .ok (.iload_n 3, 1) := by decide +kernel
theorem dX0_lowestFreeColour_3 : decode cX0_lowestFreeColour 3 = .ok (.iload_n 2, 1) := by decide +kernel
theorem dX0_lowestFreeColour_4 : decode cX0_lowestFreeColour 4 = .ok (.if_icmp .ge 20, 3) := by decide +kernel
theorem dX0_lowestFreeColour_7 : decode cX0_lowestFreeColour 7 = .ok (.aload_n 0, 1) := by decide +kernel
theorem dX0_lowestFreeColour_8 : decode cX0_lowestFreeColour 8 = .ok (.iload_n 1, 1) := by decide +kernel
theorem dX0_lowestFreeColour_9 : decode cX0_lowestFreeColour 9 = .ok (.iload_n 3, 1) := by decide +kernel
theorem dX0_lowestFreeColour_10 : decode cX0_lowestFreeColour 10 = .ok (.invokevirtual 120, 3) := by decide +kernel
theorem dX0_lowestFreeColour_13 : decode cX0_lowestFreeColour 13 = .ok (.ifCond .ne 5, 3) := by decide +kernel
theorem dX0_lowestFreeColour_16 : decode cX0_lowestFreeColour 16 = .ok (.iload_n 3, 1) := by decide +kernel
theorem dX0_lowestFreeColour_17 : decode cX0_lowestFreeColour 17 = .ok (.ireturn, 1) := by decide +kernel
theorem dX0_lowestFreeColour_18 : decode cX0_lowestFreeColour 18 = .ok (.iinc 3 1, 3) := by decide +kernel
theorem dX0_lowestFreeColour_21 : decode cX0_lowestFreeColour 21 = .ok (.goto (-19), 3) := by decide +kernel
theorem dX0_lowestFreeColour_24 : decode cX0_lowestFreeColour 24 = .ok (.bipush (-7), 2) := by decide +kernel
theorem dX0_lowestFreeColour_26 : decode cX0_lowestFreeColour 26 = .ok (.ireturn, 1) := by decide +kernel
theorem dX0_reductionBit_0 : decode cX0_reductionBit 0 = .ok (.aload_n 0, 1) := by decide +kernel
theorem dX0_reductionBit_1 : decode cX0_reductionBit 1 = .ok (.iload_n 1, 1) := by decide +kernel
theorem dX0_reductionBit_2 : decode cX0_reductionBit 2 = .ok (.invokevirtual 60, 3) := by decide +kernel
theorem dX0_reductionBit_5 : decode cX0_reductionBit 5 = .ok (.ifCond .eq 5, 3) := by decide +kernel
theorem dX0_reductionBit_8 : decode cX0_reductionBit 8 = .ok (.iconst 0, 1) := by decide +kernel
theorem dX0_reductionBit_9 : decode cX0_reductionBit 9 = .ok (.ireturn, 1) := by decide +kernel
theorem dX0_reductionBit_10 : decode cX0_reductionBit 10 = .ok (.aload_n 0, 1) := by decide +kernel
theorem dX0_reductionBit_11 : decode cX0_reductionBit 11 = .ok (.getfield 21, 3) := by decide +kernel
theorem dX0_reductionBit_14 : decode cX0_reductionBit 14 = .ok (.iload_n 1, 1) := by decide +kernel
theorem dX0_reductionBit_15 : decode cX0_reductionBit 15 = .ok (.iaload, 1) := by decide +kernel
theorem dX0_reductionBit_16 : decode cX0_reductionBit 16 = .ok (.aload_n 0, 1) := by decide +kernel
theorem dX0_reductionBit_17 : decode cX0_reductionBit 17 = .ok (.getfield 21, 3) := by decide +kernel
theorem dX0_reductionBit_20 : decode cX0_reductionBit 20 = .ok (.aload_n 0, 1) := by decide +kernel
theorem dX0_reductionBit_21 : decode cX0_reductionBit 21 = .ok (.getfield 13, 3) := by decide +kernel
theorem dX0_reductionBit_24 : decode cX0_reductionBit 24 = .ok (.iload_n 1, 1) := by decide +kernel
theorem dX0_reductionBit_25 : decode cX0_reductionBit 25 = .ok (.iaload, 1) := by decide +kernel
theorem dX0_reductionBit_26 : decode cX0_reductionBit 26 = .ok (.iaload, 1) := by decide +kernel
theorem dX0_reductionBit_27 : decode cX0_reductionBit 27 = .ok (.ixor, 1) := by decide +kernel
theorem dX0_reductionBit_28 : decode cX0_reductionBit 28 = .ok (.invokestatic 123, 3) := by decide +kernel
theorem dX0_reductionBit_31 : decode cX0_reductionBit 31 = .ok (.ireturn, 1) := by decide +kernel
theorem dX0_startCount_0 : decode cX0_startCount 0 = .ok (.aload_n 0, 1) := by decide +kernel
theorem dX0_startCount_1 : decode cX0_startCount 1 = .ok (.iconst 0, 1) := by decide +kernel
theorem dX0_startCount_2 : decode cX0_startCount 2 = .ok (.putfield 31, 3) := by decide +kernel
theorem dX0_startCount_5 : decode cX0_startCount 5 = .ok (.return_, 1) := by decide +kernel
theorem dX0_rowAfterPresent_0 : decode cX0_rowAfterPresent 0 = .ok (.aload_n 0, 1) := by decide +kernel
theorem dX0_rowAfterPresent_1 : decode cX0_rowAfterPresent 1 = .ok (.getfield 24, 3) := by decide +kernel
theorem dX0_rowAfterPresent_4 : decode cX0_rowAfterPresent 4 = .ok (.iconst 1, 1) := by decide +kernel
theorem dX0_rowAfterPresent_5 : decode cX0_rowAfterPresent 5 = .ok (.iadd, 1) := by decide +kernel
theorem dX0_rowAfterPresent_6 : decode cX0_rowAfterPresent 6 = .ok (.bipush 18, 2) := by decide +kernel
theorem dX0_rowAfterPresent_8 : decode cX0_rowAfterPresent 8 = .ok (.if_icmp .ge 12, 3) := by decide +kernel
theorem dX0_rowAfterPresent_11 : decode cX0_rowAfterPresent 11 = .ok (.aload_n 0, 1) := by decide +kernel
theorem dX0_rowAfterPresent_12 : decode cX0_rowAfterPresent 12 = .ok (.getfield 24, 3) := by decide +kernel
theorem dX0_rowAfterPresent_15 : decode cX0_rowAfterPresent 15 = .ok (.iconst 1, 1) := by decide +kernel
theorem dX0_rowAfterPresent_16 : decode cX0_rowAfterPresent 16 = .ok (.iadd, 1) := by decide +kernel
theorem dX0_rowAfterPresent_17 : decode cX0_rowAfterPresent 17 = .ok (.goto 4, 3) := by decide +kernel
theorem dX0_rowAfterPresent_20 : decode cX0_rowAfterPresent 20 = .ok (.iconst 0, 1) := by decide +kernel
theorem dX0_rowAfterPresent_21 : decode cX0_rowAfterPresent 21 = .ok (.ireturn, 1) := by decide +kernel
theorem dX0_endRound_0 : decode cX0_endRound 0 = .ok (.aload_n 0, 1) := by decide +kernel
theorem dX0_endRound_1 : decode cX0_endRound 1 = .ok (.aload_n 0, 1) := by decide +kernel
theorem dX0_endRound_2 : decode cX0_endRound 2 = .ok (.invokevirtual 126, 3) := by decide +kernel
theorem dX0_endRound_5 : decode cX0_endRound 5 = .ok (.putfield 24, 3) := by decide +kernel
theorem dX0_endRound_8 : decode cX0_endRound 8 = .ok (.aload_n 0, 1) := by decide +kernel
theorem dX0_endRound_9 : decode cX0_endRound 9 = .ok (.aload_n 0, 1) := by decide +kernel
theorem dX0_endRound_10 : decode cX0_endRound 10 = .ok (.getfield 18, 3) := by decide +kernel
theorem dX0_endRound_13 : decode cX0_endRound 13 = .ok (.aload_n 0, 1) := by decide +kernel
theorem dX0_endRound_14 : decode cX0_endRound 14 = .ok (.getfield 24, 3) := by decide +kernel
theorem dX0_endRound_17 : decode cX0_endRound 17 = .ok (.aaload, 1) := by decide +kernel
theorem dX0_endRound_18 : decode cX0_endRound 18 = .ok (.putfield 21, 3) := by decide +kernel
theorem dX0_endRound_21 : decode cX0_endRound 21 = .ok (.aload_n 0, 1) := by decide +kernel
theorem dX0_endRound_22 : decode cX0_endRound 22 = .ok (.dup, 1) := by decide +kernel
theorem dX0_endRound_23 : decode cX0_endRound 23 = .ok (.getfield 31, 3) := by decide +kernel
theorem dX0_endRound_26 : decode cX0_endRound 26 = .ok (.iconst 1, 1) := by decide +kernel
theorem dX0_endRound_27 : decode cX0_endRound 27 = .ok (.iadd, 1) := by decide +kernel
theorem dX0_endRound_28 : decode cX0_endRound 28 = .ok (.putfield 31, 3) := by decide +kernel
theorem dX0_endRound_31 : decode cX0_endRound 31 = .ok (.return_, 1) := by decide +kernel
theorem dX0_doReduction_0 : decode cX0_doReduction 0 = .ok (.aload_n 0, 1) := by decide +kernel
theorem dX0_doReduction_1 : decode cX0_doReduction 1 = .ok (.getfield 18, 3) := by decide +kernel
theorem dX0_doReduction_4 : decode cX0_doReduction 4 = .ok (.aload_n 0, 1) := by decide +kernel
theorem dX0_doReduction_5 : decode cX0_doReduction 5 = .ok (.invokevirtual 126, 3) := by decide +kernel
theorem dX0_doReduction_8 : decode cX0_doReduction 8 = .ok (.aaload, 1) := by decide +kernel
theorem dX0_doReduction_9 : decode cX0_doReduction 9 = .ok (.astore_n 1, 1) := by decide +kernel
theorem dX0_doReduction_10 : decode cX0_doReduction 10 = .ok (.iconst 0, 1) := by decide +kernel
theorem dX0_doReduction_11 : decode cX0_doReduction 11 = .ok (.istore_n 2, 1) := by decide +kernel
theorem dX0_doReduction_12 : decode cX0_doReduction 12 = .ok (.iload_n 2, 1) := by decide +kernel
theorem dX0_doReduction_13 : decode cX0_doReduction 13 = .ok (.aload_n 0, 1) := by decide +kernel
theorem dX0_doReduction_14 : decode cX0_doReduction 14 = .ok (.getfield 28, 3) := by decide +kernel
theorem dX0_doReduction_17 : decode cX0_doReduction 17 = .ok (.if_icmp .ge 32, 3) := by decide +kernel
theorem dX0_doReduction_20 : decode cX0_doReduction 20 = .ok (.aload_n 0, 1) := by decide +kernel
theorem dX0_doReduction_21 : decode cX0_doReduction 21 = .ok (.iload_n 2, 1) := by decide +kernel
theorem dX0_doReduction_22 : decode cX0_doReduction 22 = .ok (.invokevirtual 84, 3) := by decide +kernel
theorem dX0_doReduction_25 : decode cX0_doReduction 25 = .ok (.istore_n 3, 1) := by decide +kernel
theorem dX0_doReduction_26 : decode cX0_doReduction 26 = .ok (.aload_n 1, 1) := by decide +kernel
theorem dX0_doReduction_27 : decode cX0_doReduction 27 = .ok (.iload_n 2, 1) := by decide +kernel
theorem dX0_doReduction_28 : decode cX0_doReduction 28 = .ok (.iconst 2, 1) := by decide +kernel
theorem dX0_doReduction_29 : decode cX0_doReduction 29 = .ok (.iload_n 3, 1) := by decide +kernel
theorem dX0_doReduction_30 : decode cX0_doReduction 30 = .ok (.imul, 1) := by decide +kernel
theorem dX0_doReduction_31 : decode cX0_doReduction 31 = .ok (.aload_n 0, 1) := by decide +kernel
theorem dX0_doReduction_32 : decode cX0_doReduction 32 = .ok (.getfield 21, 3) := by decide +kernel
theorem dX0_doReduction_35 : decode cX0_doReduction 35 = .ok (.iload_n 2, 1) := by decide +kernel
theorem dX0_doReduction_36 : decode cX0_doReduction 36 = .ok (.iaload, 1) := by decide +kernel
theorem dX0_doReduction_37 : decode cX0_doReduction 37 = .ok (.iload_n 3, 1) := by decide +kernel
theorem dX0_doReduction_38 : decode cX0_doReduction 38 = .ok (.ishr, 1) := by decide +kernel
theorem dX0_doReduction_39 : decode cX0_doReduction 39 = .ok (.iconst 1, 1) := by decide +kernel
theorem dX0_doReduction_40 : decode cX0_doReduction 40 = .ok (.iand, 1) := by decide +kernel
theorem dX0_doReduction_41 : decode cX0_doReduction 41 = .ok (.iadd, 1) := by decide +kernel
theorem dX0_doReduction_42 : decode cX0_doReduction 42 = .ok (.iastore, 1) := by decide +kernel
theorem dX0_doReduction_43 : decode cX0_doReduction 43 = .ok (.iinc 2 1, 3) := by decide +kernel
theorem dX0_doReduction_46 : decode cX0_doReduction 46 = .ok (.goto (-34), 3) := by decide +kernel
theorem dX0_doReduction_49 : decode cX0_doReduction 49 = .ok (.aload_n 0, 1) := by decide +kernel
theorem dX0_doReduction_50 : decode cX0_doReduction 50 = .ok (.invokevirtual 129, 3) := by decide +kernel
theorem dX0_doReduction_53 : decode cX0_doReduction 53 = .ok (.return_, 1) := by decide +kernel
theorem dX0_doShift_0 : decode cX0_doShift 0 = .ok (.aload_n 0, 1) := by decide +kernel
theorem dX0_doShift_1 : decode cX0_doShift 1 = .ok (.getfield 18, 3) := by decide +kernel
theorem dX0_doShift_4 : decode cX0_doShift 4 = .ok (.aload_n 0, 1) := by decide +kernel
theorem dX0_doShift_5 : decode cX0_doShift 5 = .ok (.invokevirtual 126, 3) := by decide +kernel
theorem dX0_doShift_8 : decode cX0_doShift 8 = .ok (.aaload, 1) := by decide +kernel
theorem dX0_doShift_9 : decode cX0_doShift 9 = .ok (.astore_n 1, 1) := by decide +kernel
theorem dX0_doShift_10 : decode cX0_doShift 10 = .ok (.iconst 0, 1) := by decide +kernel
theorem dX0_doShift_11 : decode cX0_doShift 11 = .ok (.istore_n 2, 1) := by decide +kernel
theorem dX0_doShift_12 : decode cX0_doShift 12 = .ok (.iconst 0, 1) := by decide +kernel
theorem dX0_doShift_13 : decode cX0_doShift 13 = .ok (.istore_n 3, 1) := by decide +kernel
theorem dX0_doShift_14 : decode cX0_doShift 14 = .ok (.iload_n 3, 1) := by decide +kernel
theorem dX0_doShift_15 : decode cX0_doShift 15 = .ok (.aload_n 0, 1) := by decide +kernel
theorem dX0_doShift_16 : decode cX0_doShift 16 = .ok (.getfield 28, 3) := by decide +kernel
theorem dX0_doShift_19 : decode cX0_doShift 19 = .ok (.if_icmp .ge 32, 3) := by decide +kernel
theorem dX0_doShift_22 : decode cX0_doShift 22 = .ok (.aload_n 1, 1) := by decide +kernel
theorem dX0_doShift_23 : decode cX0_doShift 23 = .ok (.iload_n 3, 1) := by decide +kernel
theorem dX0_doShift_24 : decode cX0_doShift 24 = .ok (.aload_n 0, 1) := by decide +kernel
theorem dX0_doShift_25 : decode cX0_doShift 25 = .ok (.iload_n 3, 1) := by decide +kernel
theorem dX0_doShift_26 : decode cX0_doShift 26 = .ok (.invokevirtual 132, 3) := by decide +kernel
theorem dX0_doShift_29 : decode cX0_doShift 29 = .ok (.iastore, 1) := by decide +kernel
theorem dX0_doShift_30 : decode cX0_doShift 30 = .ok (.aload_n 1, 1) := by decide +kernel
theorem dX0_doShift_31 : decode cX0_doShift 31 = .ok (.iload_n 3, 1) := by decide +kernel
theorem dX0_doShift_32 : decode cX0_doShift 32 = .ok (.iaload, 1) := by decide +kernel
theorem dX0_doShift_33 : decode cX0_doShift 33 = .ok (.aload_n 0, 1) := by decide +kernel
theorem dX0_doShift_34 : decode cX0_doShift 34 = .ok (.getfield 21, 3) := by decide +kernel
theorem dX0_doShift_37 : decode cX0_doShift 37 = .ok (.iload_n 3, 1) := by decide +kernel
theorem dX0_doShift_38 : decode cX0_doShift 38 = .ok (.iaload, 1) := by decide +kernel
theorem dX0_doShift_39 : decode cX0_doShift 39 = .ok (.if_icmp .eq 6, 3) := by decide +kernel
theorem dX0_doShift_42 : decode cX0_doShift 42 = .ok (.iinc 2 1, 3) := by decide +kernel
theorem dX0_doShift_45 : decode cX0_doShift 45 = .ok (.iinc 3 1, 3) := by decide +kernel
theorem dX0_doShift_48 : decode cX0_doShift 48 = .ok (.goto (-34), 3) := by decide +kernel
theorem dX0_doShift_51 : decode cX0_doShift 51 = .ok (.aload_n 0, 1) := by decide +kernel
theorem dX0_doShift_52 : decode cX0_doShift 52 = .ok (.invokevirtual 129, 3) := by decide +kernel
theorem dX0_doShift_55 : decode cX0_doShift 55 = .ok (.iload_n 2, 1) := by decide +kernel
theorem dX0_doShift_56 : decode cX0_doShift 56 = .ok (.ireturn, 1) := by decide +kernel
theorem dX0_shiftedColour_0 : decode cX0_shiftedColour 0 = .ok (.aload_n 0, 1) := by decide +kernel
theorem dX0_shiftedColour_1 : decode cX0_shiftedColour 1 = .ok (.iload_n 1, 1) := by decide +kernel
theorem dX0_shiftedColour_2 : decode cX0_shiftedColour 2 = .ok (.invokevirtual 60, 3) := by decide +kernel
theorem dX0_shiftedColour_5 : decode cX0_shiftedColour 5 = .ok (.ifCond .ne 15, 3) := by decide +kernel
theorem dX0_shiftedColour_8 : decode cX0_shiftedColour 8 = .ok (.aload_n 0, 1) := by decide +kernel
theorem dX0_shiftedColour_9 : decode cX0_shiftedColour 9 = .ok (.getfield 21, 3) := by decide +kernel
theorem dX0_shiftedColour_12 : decode cX0_shiftedColour 12 = .ok (.aload_n 0, 1) := by decide +kernel
theorem dX0_shiftedColour_13 : decode cX0_shiftedColour 13 = .ok (.getfield 13, 3) := by decide +kernel
theorem dX0_shiftedColour_16 : decode cX0_shiftedColour 16 = .ok (.iload_n 1, 1) := by decide +kernel
theorem dX0_shiftedColour_17 : decode cX0_shiftedColour 17 = .ok (.iaload, 1) := by decide +kernel
theorem dX0_shiftedColour_18 : decode cX0_shiftedColour 18 = .ok (.iaload, 1) := by decide +kernel
theorem dX0_shiftedColour_19 : decode cX0_shiftedColour 19 = .ok (.ireturn, 1) := by decide +kernel
theorem dX0_shiftedColour_20 : decode cX0_shiftedColour 20 = .ok (.aload_n 0, 1) := by decide +kernel
theorem dX0_shiftedColour_21 : decode cX0_shiftedColour 21 = .ok (.getfield 21, 3) := by decide +kernel
theorem dX0_shiftedColour_24 : decode cX0_shiftedColour 24 = .ok (.iload_n 1, 1) := by decide +kernel
theorem dX0_shiftedColour_25 : decode cX0_shiftedColour 25 = .ok (.iaload, 1) := by decide +kernel
theorem dX0_shiftedColour_26 : decode cX0_shiftedColour 26 = .ok (.ifCond .ne 7, 3) := by decide +kernel
theorem dX0_shiftedColour_29 : decode cX0_shiftedColour 29 = .ok (.iconst 1, 1) := by decide +kernel
theorem dX0_shiftedColour_30 : decode cX0_shiftedColour 30 = .ok (.goto 4, 3) := by decide +kernel
theorem dX0_shiftedColour_33 : decode cX0_shiftedColour 33 = .ok (.iconst 0, 1) := by decide +kernel
theorem dX0_shiftedColour_34 : decode cX0_shiftedColour 34 = .ok (.ireturn, 1) := by decide +kernel
theorem dX0_doElimination_0 : decode cX0_doElimination 0 = .ok (.aload_n 0, 1) := by decide +kernel
theorem dX0_doElimination_1 : decode cX0_doElimination 1 = .ok (.getfield 18, 3) := by decide +kernel
theorem dX0_doElimination_4 : decode cX0_doElimination 4 = .ok (.aload_n 0, 1) := by decide +kernel
theorem dX0_doElimination_5 : decode cX0_doElimination 5 = .ok (.invokevirtual 126, 3) := by decide +kernel
theorem dX0_doElimination_8 : decode cX0_doElimination 8 = .ok (.aaload, 1) := by decide +kernel
theorem dX0_doElimination_9 : decode cX0_doElimination 9 = .ok (.astore_n 2, 1) := by decide +kernel
theorem dX0_doElimination_10 : decode cX0_doElimination 10 = .ok (.iconst 0, 1) := by decide +kernel
theorem dX0_doElimination_11 : decode cX0_doElimination 11 = .ok (.istore_n 3, 1) := by decide +kernel
theorem dX0_doElimination_12 : decode cX0_doElimination 12 = .ok (.iconst 0, 1) := by decide +kernel
theorem dX0_doElimination_13 : decode cX0_doElimination 13 = .ok (.istore 4, 2) := by decide +kernel
theorem dX0_doElimination_15 : decode cX0_doElimination 15 = .ok (.iload 4, 2) := by decide +kernel
theorem dX0_doElimination_17 : decode cX0_doElimination 17 = .ok (.aload_n 0, 1) := by decide +kernel
theorem dX0_doElimination_18 : decode cX0_doElimination 18 = .ok (.getfield 28, 3) := by decide +kernel
theorem dX0_doElimination_21 : decode cX0_doElimination 21 = .ok (.if_icmp .ge 57, 3) := by decide +kernel
theorem dX0_doElimination_24 : decode cX0_doElimination 24 = .ok (.aload_n 2, 1) := by decide +kernel
theorem dX0_doElimination_25 : decode cX0_doElimination 25 = .ok (.iload 4, 2) := by decide +kernel
theorem dX0_doElimination_27 : decode cX0_doElimination 27 = .ok (.aload_n 0, 1) := by decide +kernel
theorem dX0_doElimination_28 : decode cX0_doElimination 28 = .ok (.getfield 21, 3) := by decide +kernel
theorem dX0_doElimination_31 : decode cX0_doElimination 31 = .ok (.iload 4, 2) := by decide +kernel
theorem dX0_doElimination_33 : decode cX0_doElimination 33 = .ok (.iaload, 1) := by decide +kernel
theorem dX0_doElimination_34 : decode cX0_doElimination 34 = .ok (.iastore, 1) := by decide +kernel
theorem dX0_doElimination_35 : decode cX0_doElimination 35 = .ok (.aload_n 0, 1) := by decide +kernel
theorem dX0_doElimination_36 : decode cX0_doElimination 36 = .ok (.getfield 21, 3) := by decide +kernel
theorem dX0_doElimination_39 : decode cX0_doElimination 39 = .ok (.iload 4, 2) := by decide +kernel
theorem dX0_doElimination_41 : decode cX0_doElimination 41 = .ok (.iaload, 1) := by decide +kernel
theorem dX0_doElimination_42 : decode cX0_doElimination 42 = .ok (.iload_n 1, 1) := by decide +kernel
theorem dX0_doElimination_43 : decode cX0_doElimination 43 = .ok (.if_icmp .ne 29, 3) := by decide +kernel
theorem dX0_doElimination_46 : decode cX0_doElimination 46 = .ok (.aload_n 2, 1) := by decide +kernel
theorem dX0_doElimination_47 : decode cX0_doElimination 47 = .ok (.iload 4, 2) := by decide +kernel
theorem dX0_doElimination_49 : decode cX0_doElimination 49 = .ok (.aload_n 0, 1) := by decide +kernel
theorem dX0_doElimination_50 : decode cX0_doElimination 50 = .ok (.iload 4, 2) := by decide +kernel
theorem dX0_doElimination_52 : decode cX0_doElimination 52 = .ok (.iconst 3, 1) := by decide +kernel
theorem dX0_doElimination_53 : decode cX0_doElimination 53 = .ok (.invokevirtual 70, 3) := by decide +kernel
theorem dX0_doElimination_56 : decode cX0_doElimination 56 = .ok (.iastore, 1) := by decide +kernel
theorem dX0_doElimination_57 : decode cX0_doElimination 57 = .ok (.aload_n 2, 1) := by decide +kernel
theorem dX0_doElimination_58 : decode cX0_doElimination 58 = .ok (.iload 4, 2) := by decide +kernel
theorem dX0_doElimination_60 : decode cX0_doElimination 60 = .ok (.iaload, 1) := by decide +kernel
theorem dX0_doElimination_61 : decode cX0_doElimination 61 = .ok (.bipush (-7), 2) := by decide +kernel
theorem dX0_doElimination_63 : decode cX0_doElimination 63 = .ok (.if_icmp .ne 6, 3) := by decide +kernel
theorem dX0_doElimination_66 : decode cX0_doElimination 66 = .ok (.bipush (-6), 2) := by decide +kernel
theorem dX0_doElimination_68 : decode cX0_doElimination 68 = .ok (.ireturn, 1) := by decide +kernel
theorem dX0_doElimination_69 : decode cX0_doElimination 69 = .ok (.iinc 3 1, 3) := by decide +kernel
theorem dX0_doElimination_72 : decode cX0_doElimination 72 = .ok (.iinc 4 1, 3) := by decide +kernel
theorem dX0_doElimination_75 : decode cX0_doElimination 75 = .ok (.goto (-60), 3) := by decide +kernel
theorem dX0_doElimination_78 : decode cX0_doElimination 78 = .ok (.aload_n 0, 1) := by decide +kernel
theorem dX0_doElimination_79 : decode cX0_doElimination 79 = .ok (.invokevirtual 129, 3) := by decide +kernel
theorem dX0_doElimination_82 : decode cX0_doElimination 82 = .ok (.iload_n 3, 1) := by decide +kernel
theorem dX0_doElimination_83 : decode cX0_doElimination 83 = .ok (.ireturn, 1) := by decide +kernel
theorem dX0_independentSet_0 : decode cX0_independentSet 0 = .ok (.iconst 0, 1) := by decide +kernel
theorem dX0_independentSet_1 : decode cX0_independentSet 1 = .ok (.istore_n 1, 1) := by decide +kernel
theorem dX0_independentSet_2 : decode cX0_independentSet 2 = .ok (.iconst 0, 1) := by decide +kernel
theorem dX0_independentSet_3 : decode cX0_independentSet 3 = .ok (.istore_n 2, 1) := by decide +kernel
theorem dX0_independentSet_4 : decode cX0_independentSet 4 = .ok (.iconst 0, 1) := by decide +kernel
theorem dX0_independentSet_5 : decode cX0_independentSet 5 = .ok (.istore_n 3, 1) := by decide +kernel
theorem dX0_independentSet_6 : decode cX0_independentSet 6 = .ok (.iload_n 3, 1) := by decide +kernel
theorem dX0_independentSet_7 : decode cX0_independentSet 7 = .ok (.aload_n 0, 1) := by decide +kernel
theorem dX0_independentSet_8 : decode cX0_independentSet 8 = .ok (.getfield 28, 3) := by decide +kernel
theorem dX0_independentSet_11 : decode cX0_independentSet 11 = .ok (.if_icmp .ge 50, 3) := by decide +kernel
theorem dX0_independentSet_14 : decode cX0_independentSet 14 = .ok (.aload_n 0, 1) := by decide +kernel
theorem dX0_independentSet_15 : decode cX0_independentSet 15 = .ok (.iload_n 2, 1) := by decide +kernel
theorem dX0_independentSet_16 : decode cX0_independentSet 16 = .ok (.invokevirtual 135, 3) := by decide +kernel
theorem dX0_independentSet_19 : decode cX0_independentSet 19 = .ok (.istore 4, 2) := by decide +kernel
theorem dX0_independentSet_21 : decode cX0_independentSet 21 = .ok (.iload 4, 2) := by decide +kernel
theorem dX0_independentSet_23 : decode cX0_independentSet 23 = .ok (.bipush (-7), 2) := by decide +kernel
theorem dX0_independentSet_25 : decode cX0_independentSet 25 = .ok (.if_icmp .ne 5, 3) := by decide +kernel
theorem dX0_independentSet_28 : decode cX0_independentSet 28 = .ok (.iload_n 1, 1) := by decide +kernel
theorem dX0_independentSet_29 : decode cX0_independentSet 29 = .ok (.ireturn, 1) := by decide +kernel
theorem dX0_independentSet_30 : decode cX0_independentSet 30 = .ok (.iload_n 2, 1) := by decide +kernel
theorem dX0_independentSet_31 : decode cX0_independentSet 31 = .ok (.iconst 1, 1) := by decide +kernel
theorem dX0_independentSet_32 : decode cX0_independentSet 32 = .ok (.iload 4, 2) := by decide +kernel
theorem dX0_independentSet_34 : decode cX0_independentSet 34 = .ok (.ishl, 1) := by decide +kernel
theorem dX0_independentSet_35 : decode cX0_independentSet 35 = .ok (.ior, 1) := by decide +kernel
theorem dX0_independentSet_36 : decode cX0_independentSet 36 = .ok (.istore_n 2, 1) := by decide +kernel
theorem dX0_independentSet_37 : decode cX0_independentSet 37 = .ok (.aload_n 0, 1) := by decide +kernel
theorem dX0_independentSet_38 : decode cX0_independentSet 38 = .ok (.iload 4, 2) := by decide +kernel
theorem dX0_independentSet_40 : decode cX0_independentSet 40 = .ok (.invokevirtual 51, 3) := by decide +kernel
theorem dX0_independentSet_43 : decode cX0_independentSet 43 = .ok (.iload_n 1, 1) := by decide +kernel
theorem dX0_independentSet_44 : decode cX0_independentSet 44 = .ok (.iand, 1) := by decide +kernel
theorem dX0_independentSet_45 : decode cX0_independentSet 45 = .ok (.ifCond .ne 10, 3) := by decide +kernel
theorem dX0_independentSet_48 : decode cX0_independentSet 48 = .ok (.iload_n 1, 1) := by decide +kernel
theorem dX0_independentSet_49 : decode cX0_independentSet 49 = .ok (.iconst 1, 1) := by decide +kernel
theorem dX0_independentSet_50 : decode cX0_independentSet 50 = .ok (.iload 4, 2) := by decide +kernel
theorem dX0_independentSet_52 : decode cX0_independentSet 52 = .ok (.ishl, 1) := by decide +kernel
theorem dX0_independentSet_53 : decode cX0_independentSet 53 = .ok (.ior, 1) := by decide +kernel
theorem dX0_independentSet_54 : decode cX0_independentSet 54 = .ok (.istore_n 1, 1) := by decide +kernel
theorem dX0_independentSet_55 : decode cX0_independentSet 55 = .ok (.iinc 3 1, 3) := by decide +kernel
theorem dX0_independentSet_58 : decode cX0_independentSet 58 = .ok (.goto (-52), 3) := by decide +kernel
theorem dX0_independentSet_61 : decode cX0_independentSet 61 = .ok (.iload_n 1, 1) := by decide +kernel
theorem dX0_independentSet_62 : decode cX0_independentSet 62 = .ok (.ireturn, 1) := by decide +kernel
theorem dX0_nextToVisit_0 : decode cX0_nextToVisit 0 = .ok (.bipush (-7), 2) := by decide +kernel
theorem dX0_nextToVisit_2 : decode cX0_nextToVisit 2 = .ok (.istore_n 2, 1) := by decide +kernel
theorem dX0_nextToVisit_3 : decode cX0_nextToVisit 3 = .ok (.iconst 0, 1) := by decide +kernel
theorem dX0_nextToVisit_4 : decode cX0_nextToVisit 4 = .ok (.istore_n 3, 1) := by decide +kernel
theorem dX0_nextToVisit_5 : decode cX0_nextToVisit 5 = .ok (.iload_n 3, 1) := by decide +kernel
theorem dX0_nextToVisit_6 : decode cX0_nextToVisit 6 = .ok (.aload_n 0, 1) := by decide +kernel
theorem dX0_nextToVisit_7 : decode cX0_nextToVisit 7 = .ok (.getfield 28, 3) := by decide +kernel
theorem dX0_nextToVisit_10 : decode cX0_nextToVisit 10 = .ok (.if_icmp .ge 40, 3) := by decide +kernel
theorem dX0_nextToVisit_13 : decode cX0_nextToVisit 13 = .ok (.iload_n 1, 1) := by decide +kernel
theorem dX0_nextToVisit_14 : decode cX0_nextToVisit 14 = .ok (.iload_n 3, 1) := by decide +kernel
theorem dX0_nextToVisit_15 : decode cX0_nextToVisit 15 = .ok (.invokestatic 63, 3) := by decide +kernel
theorem dX0_nextToVisit_18 : decode cX0_nextToVisit 18 = .ok (.ifCond .ne 26, 3) := by decide +kernel
theorem dX0_nextToVisit_21 : decode cX0_nextToVisit 21 = .ok (.iload_n 2, 1) := by decide +kernel
theorem dX0_nextToVisit_22 : decode cX0_nextToVisit 22 = .ok (.bipush (-7), 2) := by decide +kernel
theorem dX0_nextToVisit_24 : decode cX0_nextToVisit 24 = .ok (.if_icmp .eq 18, 3) := by decide +kernel
theorem dX0_nextToVisit_27 : decode cX0_nextToVisit 27 = .ok (.aload_n 0, 1) := by decide +kernel
theorem dX0_nextToVisit_28 : decode cX0_nextToVisit 28 = .ok (.getfield 21, 3) := by decide +kernel
theorem dX0_nextToVisit_31 : decode cX0_nextToVisit 31 = .ok (.iload_n 3, 1) := by decide +kernel
theorem dX0_nextToVisit_32 : decode cX0_nextToVisit 32 = .ok (.iaload, 1) := by decide +kernel
theorem dX0_nextToVisit_33 : decode cX0_nextToVisit 33 = .ok (.aload_n 0, 1) := by decide +kernel
theorem dX0_nextToVisit_34 : decode cX0_nextToVisit 34 = .ok (.getfield 21, 3) := by decide +kernel
theorem dX0_nextToVisit_37 : decode cX0_nextToVisit 37 = .ok (.iload_n 2, 1) := by decide +kernel
theorem dX0_nextToVisit_38 : decode cX0_nextToVisit 38 = .ok (.iaload, 1) := by decide +kernel
theorem dX0_nextToVisit_39 : decode cX0_nextToVisit 39 = .ok (.if_icmp .ge 5, 3) := by decide +kernel
theorem dX0_nextToVisit_42 : decode cX0_nextToVisit 42 = .ok (.iload_n 3, 1) := by decide +kernel
theorem dX0_nextToVisit_43 : decode cX0_nextToVisit 43 = .ok (.istore_n 2, 1) := by decide +kernel
theorem dX0_nextToVisit_44 : decode cX0_nextToVisit 44 = .ok (.iinc 3 1, 3) := by decide +kernel
theorem dX0_nextToVisit_47 : decode cX0_nextToVisit 47 = .ok (.goto (-42), 3) := by decide +kernel
theorem dX0_nextToVisit_50 : decode cX0_nextToVisit 50 = .ok (.iload_n 2, 1) := by decide +kernel
theorem dX0_nextToVisit_51 : decode cX0_nextToVisit 51 = .ok (.ireturn, 1) := by decide +kernel
theorem dX0_nodeAtAnEnd_0 : decode cX0_nodeAtAnEnd 0 = .ok (.iconst 0, 1) := by decide +kernel
theorem dX0_nodeAtAnEnd_1 : decode cX0_nodeAtAnEnd 1 = .ok (.istore_n 2, 1) := by decide +kernel
theorem dX0_nodeAtAnEnd_2 : decode cX0_nodeAtAnEnd 2 = .ok (.iload_n 2, 1) := by decide +kernel
theorem dX0_nodeAtAnEnd_3 : decode cX0_nodeAtAnEnd 3 = .ok (.aload_n 0, 1) := by decide +kernel
theorem dX0_nodeAtAnEnd_4 : decode cX0_nodeAtAnEnd 4 = .ok (.getfield 28, 3) := by decide +kernel
theorem dX0_nodeAtAnEnd_7 : decode cX0_nodeAtAnEnd 7 = .ok (.if_icmp .ge 33, 3) := by decide +kernel
theorem dX0_nodeAtAnEnd_10 : decode cX0_nodeAtAnEnd 10 = .ok (.iload_n 1, 1) := by decide +kernel
theorem dX0_nodeAtAnEnd_11 : decode cX0_nodeAtAnEnd 11 = .ok (.iload_n 2, 1) := by decide +kernel
theorem dX0_nodeAtAnEnd_12 : decode cX0_nodeAtAnEnd 12 = .ok (.invokestatic 63, 3) := by decide +kernel
theorem dX0_nodeAtAnEnd_15 : decode cX0_nodeAtAnEnd 15 = .ok (.ifCond .eq 19, 3) := by decide +kernel
theorem dX0_nodeAtAnEnd_18 : decode cX0_nodeAtAnEnd 18 = .ok (.aload_n 0, 1) := by decide +kernel
theorem dX0_nodeAtAnEnd_19 : decode cX0_nodeAtAnEnd 19 = .ok (.iload_n 2, 1) := by decide +kernel
theorem dX0_nodeAtAnEnd_20 : decode cX0_nodeAtAnEnd 20 = .ok (.invokevirtual 51, 3) := by decide +kernel
theorem dX0_nodeAtAnEnd_23 : decode cX0_nodeAtAnEnd 23 = .ok (.iload_n 1, 1) := by decide +kernel
theorem dX0_nodeAtAnEnd_24 : decode cX0_nodeAtAnEnd 24 = .ok (.iand, 1) := by decide +kernel
theorem dX0_nodeAtAnEnd_25 : decode cX0_nodeAtAnEnd 25 = .ok (.invokestatic 55, 3) := by decide +kernel
theorem dX0_nodeAtAnEnd_28 : decode cX0_nodeAtAnEnd 28 = .ok (.iconst 1, 1) := by decide +kernel
theorem dX0_nodeAtAnEnd_29 : decode cX0_nodeAtAnEnd 29 = .ok (.if_icmp .gt 5, 3) := by decide +kernel
theorem dX0_nodeAtAnEnd_32 : decode cX0_nodeAtAnEnd 32 = .ok (.iload_n 2, 1) := by decide +kernel
theorem dX0_nodeAtAnEnd_33 : decode cX0_nodeAtAnEnd 33 = .ok (.ireturn, 1) := by decide +kernel
theorem dX0_nodeAtAnEnd_34 : decode cX0_nodeAtAnEnd 34 = .ok (.iinc 2 1, 3) := by decide +kernel
theorem dX0_nodeAtAnEnd_37 : decode cX0_nodeAtAnEnd 37 = .ok (.goto (-35), 3) := by decide +kernel
theorem dX0_nodeAtAnEnd_40 : decode cX0_nodeAtAnEnd 40 = .ok (.bipush (-7), 2) := by decide +kernel
theorem dX0_nodeAtAnEnd_42 : decode cX0_nodeAtAnEnd 42 = .ok (.ireturn, 1) := by decide +kernel
theorem dJ6_numberOfTrailingZeros_0f7a4_0 : decode cJ6_numberOfTrailingZeros_0f7a4 0 = .ok (.iload_n 0, 1) := by decide +kernel
theorem dJ6_numberOfTrailingZeros_0f7a4_1 : decode cJ6_numberOfTrailingZeros_0f7a4 1 = .ok (.iconst (-1), 1) := by decide +kernel
theorem dJ6_numberOfTrailingZeros_0f7a4_2 : decode cJ6_numberOfTrailingZeros_0f7a4 2 = .ok (.ixor, 1) := by decide +kernel
theorem dJ6_numberOfTrailingZeros_0f7a4_3 : decode cJ6_numberOfTrailingZeros_0f7a4 3 = .ok (.iload_n 0, 1) := by decide +kernel
theorem dJ6_numberOfTrailingZeros_0f7a4_4 : decode cJ6_numberOfTrailingZeros_0f7a4 4 = .ok (.iconst 1, 1) := by decide +kernel
theorem dJ6_numberOfTrailingZeros_0f7a4_5 : decode cJ6_numberOfTrailingZeros_0f7a4 5 = .ok (.isub, 1) := by decide +kernel
theorem dJ6_numberOfTrailingZeros_0f7a4_6 : decode cJ6_numberOfTrailingZeros_0f7a4 6 = .ok (.iand, 1) := by decide +kernel
theorem dJ6_numberOfTrailingZeros_0f7a4_7 : decode cJ6_numberOfTrailingZeros_0f7a4 7 = .ok (.istore_n 0, 1) := by decide +kernel
theorem dJ6_numberOfTrailingZeros_0f7a4_8 : decode cJ6_numberOfTrailingZeros_0f7a4 8 = .ok (.iload_n 0, 1) := by decide +kernel
theorem dJ6_numberOfTrailingZeros_0f7a4_9 : decode cJ6_numberOfTrailingZeros_0f7a4 9 = .ok (.ifCond .gt 8, 3) := by decide +kernel
theorem dJ6_numberOfTrailingZeros_0f7a4_12 : decode cJ6_numberOfTrailingZeros_0f7a4 12 = .ok (.iload_n 0, 1) := by decide +kernel
theorem dJ6_numberOfTrailingZeros_0f7a4_13 : decode cJ6_numberOfTrailingZeros_0f7a4 13 = .ok (.bipush 32, 2) := by decide +kernel
theorem dJ6_numberOfTrailingZeros_0f7a4_15 : decode cJ6_numberOfTrailingZeros_0f7a4 15 = .ok (.iand, 1) := by decide +kernel
theorem dJ6_numberOfTrailingZeros_0f7a4_16 : decode cJ6_numberOfTrailingZeros_0f7a4 16 = .ok (.ireturn, 1) := by decide +kernel
theorem dJ6_numberOfTrailingZeros_0f7a4_17 : decode cJ6_numberOfTrailingZeros_0f7a4 17 = .ok (.iconst 1, 1) := by decide +kernel
theorem dJ6_numberOfTrailingZeros_0f7a4_18 : decode cJ6_numberOfTrailingZeros_0f7a4 18 = .ok (.istore_n 1, 1) := by decide +kernel
theorem dJ6_numberOfTrailingZeros_0f7a4_19 : decode cJ6_numberOfTrailingZeros_0f7a4 19 = .ok (.iload_n 0, 1) := by decide +kernel
theorem dJ6_numberOfTrailingZeros_0f7a4_20 : decode cJ6_numberOfTrailingZeros_0f7a4 20 = .ok (.ldc_w 264, 3) := by decide +kernel
theorem dJ6_numberOfTrailingZeros_0f7a4_23 : decode cJ6_numberOfTrailingZeros_0f7a4 23 = .ok (.if_icmp .le 11, 3) := by decide +kernel
theorem dJ6_numberOfTrailingZeros_0f7a4_26 : decode cJ6_numberOfTrailingZeros_0f7a4 26 = .ok (.iinc 1 16, 3) := by decide +kernel
theorem dJ6_numberOfTrailingZeros_0f7a4_29 : decode cJ6_numberOfTrailingZeros_0f7a4 29 = .ok (.iload_n 0, 1) := by decide +kernel
theorem dJ6_numberOfTrailingZeros_0f7a4_30 : decode cJ6_numberOfTrailingZeros_0f7a4 30 = .ok (.bipush 16, 2) := by decide +kernel
theorem dJ6_numberOfTrailingZeros_0f7a4_32 : decode cJ6_numberOfTrailingZeros_0f7a4 32 = .ok (.iushr, 1) := by decide +kernel
theorem dJ6_numberOfTrailingZeros_0f7a4_33 : decode cJ6_numberOfTrailingZeros_0f7a4 33 = .ok (.istore_n 0, 1) := by decide +kernel
theorem dJ6_numberOfTrailingZeros_0f7a4_34 : decode cJ6_numberOfTrailingZeros_0f7a4 34 = .ok (.iload_n 0, 1) := by decide +kernel
theorem dJ6_numberOfTrailingZeros_0f7a4_35 : decode cJ6_numberOfTrailingZeros_0f7a4 35 = .ok (.sipush 256, 3) := by decide +kernel
theorem dJ6_numberOfTrailingZeros_0f7a4_38 : decode cJ6_numberOfTrailingZeros_0f7a4 38 = .ok (.if_icmp .le 11, 3) := by decide +kernel
theorem dJ6_numberOfTrailingZeros_0f7a4_41 : decode cJ6_numberOfTrailingZeros_0f7a4 41 = .ok (.iinc 1 8, 3) := by decide +kernel
theorem dJ6_numberOfTrailingZeros_0f7a4_44 : decode cJ6_numberOfTrailingZeros_0f7a4 44 = .ok (.iload_n 0, 1) := by decide +kernel
theorem dJ6_numberOfTrailingZeros_0f7a4_45 : decode cJ6_numberOfTrailingZeros_0f7a4 45 = .ok (.bipush 8, 2) := by decide +kernel
theorem dJ6_numberOfTrailingZeros_0f7a4_47 : decode cJ6_numberOfTrailingZeros_0f7a4 47 = .ok (.iushr, 1) := by decide +kernel
theorem dJ6_numberOfTrailingZeros_0f7a4_48 : decode cJ6_numberOfTrailingZeros_0f7a4 48 = .ok (.istore_n 0, 1) := by decide +kernel
theorem dJ6_numberOfTrailingZeros_0f7a4_49 : decode cJ6_numberOfTrailingZeros_0f7a4 49 = .ok (.iload_n 0, 1) := by decide +kernel
theorem dJ6_numberOfTrailingZeros_0f7a4_50 : decode cJ6_numberOfTrailingZeros_0f7a4 50 = .ok (.bipush 16, 2) := by decide +kernel
theorem dJ6_numberOfTrailingZeros_0f7a4_52 : decode cJ6_numberOfTrailingZeros_0f7a4 52 = .ok (.if_icmp .le 10, 3) := by decide +kernel
theorem dJ6_numberOfTrailingZeros_0f7a4_55 : decode cJ6_numberOfTrailingZeros_0f7a4 55 = .ok (.iinc 1 4, 3) := by decide +kernel
theorem dJ6_numberOfTrailingZeros_0f7a4_58 : decode cJ6_numberOfTrailingZeros_0f7a4 58 = .ok (.iload_n 0, 1) := by decide +kernel
theorem dJ6_numberOfTrailingZeros_0f7a4_59 : decode cJ6_numberOfTrailingZeros_0f7a4 59 = .ok (.iconst 4, 1) := by decide +kernel
theorem dJ6_numberOfTrailingZeros_0f7a4_60 : decode cJ6_numberOfTrailingZeros_0f7a4 60 = .ok (.iushr, 1) := by decide +kernel
theorem dJ6_numberOfTrailingZeros_0f7a4_61 : decode cJ6_numberOfTrailingZeros_0f7a4 61 = .ok (.istore_n 0, 1) := by decide +kernel
theorem dJ6_numberOfTrailingZeros_0f7a4_62 : decode cJ6_numberOfTrailingZeros_0f7a4 62 = .ok (.iload_n 0, 1) := by decide +kernel
theorem dJ6_numberOfTrailingZeros_0f7a4_63 : decode cJ6_numberOfTrailingZeros_0f7a4 63 = .ok (.iconst 4, 1) := by decide +kernel
theorem dJ6_numberOfTrailingZeros_0f7a4_64 : decode cJ6_numberOfTrailingZeros_0f7a4 64 = .ok (.if_icmp .le 10, 3) := by decide +kernel
theorem dJ6_numberOfTrailingZeros_0f7a4_67 : decode cJ6_numberOfTrailingZeros_0f7a4 67 = .ok (.iinc 1 2, 3) := by decide +kernel
theorem dJ6_numberOfTrailingZeros_0f7a4_70 : decode cJ6_numberOfTrailingZeros_0f7a4 70 = .ok (.iload_n 0, 1) := by decide +kernel
theorem dJ6_numberOfTrailingZeros_0f7a4_71 : decode cJ6_numberOfTrailingZeros_0f7a4 71 = .ok (.iconst 2, 1) := by decide +kernel
theorem dJ6_numberOfTrailingZeros_0f7a4_72 : decode cJ6_numberOfTrailingZeros_0f7a4 72 = .ok (.iushr, 1) := by decide +kernel
theorem dJ6_numberOfTrailingZeros_0f7a4_73 : decode cJ6_numberOfTrailingZeros_0f7a4 73 = .ok (.istore_n 0, 1) := by decide +kernel
theorem dJ6_numberOfTrailingZeros_0f7a4_74 : decode cJ6_numberOfTrailingZeros_0f7a4 74 = .ok (.iload_n 1, 1) := by decide +kernel
theorem dJ6_numberOfTrailingZeros_0f7a4_75 : decode cJ6_numberOfTrailingZeros_0f7a4 75 = .ok (.iload_n 0, 1) := by decide +kernel
theorem dJ6_numberOfTrailingZeros_0f7a4_76 : decode cJ6_numberOfTrailingZeros_0f7a4 76 = .ok (.iconst 1, 1) := by decide +kernel
theorem dJ6_numberOfTrailingZeros_0f7a4_77 : decode cJ6_numberOfTrailingZeros_0f7a4 77 = .ok (.iushr, 1) := by decide +kernel
theorem dJ6_numberOfTrailingZeros_0f7a4_78 : decode cJ6_numberOfTrailingZeros_0f7a4 78 = .ok (.iadd, 1) := by decide +kernel
theorem dJ6_numberOfTrailingZeros_0f7a4_79 : decode cJ6_numberOfTrailingZeros_0f7a4 79 = .ok (.ireturn, 1) := by decide +kernel
theorem dJ6_bitCount_0f7a4_0 : decode cJ6_bitCount_0f7a4 0 = .ok (.iload_n 0, 1) := by decide +kernel
theorem dJ6_bitCount_0f7a4_1 : decode cJ6_bitCount_0f7a4 1 = .ok (.iload_n 0, 1) := by decide +kernel
theorem dJ6_bitCount_0f7a4_2 : decode cJ6_bitCount_0f7a4 2 = .ok (.iconst 1, 1) := by decide +kernel
theorem dJ6_bitCount_0f7a4_3 : decode cJ6_bitCount_0f7a4 3 = .ok (.iushr, 1) := by decide +kernel
theorem dJ6_bitCount_0f7a4_4 : decode cJ6_bitCount_0f7a4 4 = .ok (.ldc_w 265, 3) := by decide +kernel
theorem dJ6_bitCount_0f7a4_7 : decode cJ6_bitCount_0f7a4 7 = .ok (.iand, 1) := by decide +kernel
theorem dJ6_bitCount_0f7a4_8 : decode cJ6_bitCount_0f7a4 8 = .ok (.isub, 1) := by decide +kernel
theorem dJ6_bitCount_0f7a4_9 : decode cJ6_bitCount_0f7a4 9 = .ok (.istore_n 0, 1) := by decide +kernel
theorem dJ6_bitCount_0f7a4_10 : decode cJ6_bitCount_0f7a4 10 = .ok (.iload_n 0, 1) := by decide +kernel
theorem dJ6_bitCount_0f7a4_11 : decode cJ6_bitCount_0f7a4 11 = .ok (.ldc_w 266, 3) := by decide +kernel
theorem dJ6_bitCount_0f7a4_14 : decode cJ6_bitCount_0f7a4 14 = .ok (.iand, 1) := by decide +kernel
theorem dJ6_bitCount_0f7a4_15 : decode cJ6_bitCount_0f7a4 15 = .ok (.iload_n 0, 1) := by decide +kernel
theorem dJ6_bitCount_0f7a4_16 : decode cJ6_bitCount_0f7a4 16 = .ok (.iconst 2, 1) := by decide +kernel
theorem dJ6_bitCount_0f7a4_17 : decode cJ6_bitCount_0f7a4 17 = .ok (.iushr, 1) := by decide +kernel
theorem dJ6_bitCount_0f7a4_18 : decode cJ6_bitCount_0f7a4 18 = .ok (.ldc_w 266, 3) := by decide +kernel
theorem dJ6_bitCount_0f7a4_21 : decode cJ6_bitCount_0f7a4 21 = .ok (.iand, 1) := by decide +kernel
theorem dJ6_bitCount_0f7a4_22 : decode cJ6_bitCount_0f7a4 22 = .ok (.iadd, 1) := by decide +kernel
theorem dJ6_bitCount_0f7a4_23 : decode cJ6_bitCount_0f7a4 23 = .ok (.istore_n 0, 1) := by decide +kernel
theorem dJ6_bitCount_0f7a4_24 : decode cJ6_bitCount_0f7a4 24 = .ok (.iload_n 0, 1) := by decide +kernel
theorem dJ6_bitCount_0f7a4_25 : decode cJ6_bitCount_0f7a4 25 = .ok (.iload_n 0, 1) := by decide +kernel
theorem dJ6_bitCount_0f7a4_26 : decode cJ6_bitCount_0f7a4 26 = .ok (.iconst 4, 1) := by decide +kernel
theorem dJ6_bitCount_0f7a4_27 : decode cJ6_bitCount_0f7a4 27 = .ok (.iushr, 1) := by decide +kernel
theorem dJ6_bitCount_0f7a4_28 : decode cJ6_bitCount_0f7a4 28 = .ok (.iadd, 1) := by decide +kernel
theorem dJ6_bitCount_0f7a4_29 : decode cJ6_bitCount_0f7a4 29 = .ok (.ldc_w 267, 3) := by decide +kernel
theorem dJ6_bitCount_0f7a4_32 : decode cJ6_bitCount_0f7a4 32 = .ok (.iand, 1) := by decide +kernel
theorem dJ6_bitCount_0f7a4_33 : decode cJ6_bitCount_0f7a4 33 = .ok (.istore_n 0, 1) := by decide +kernel
theorem dJ6_bitCount_0f7a4_34 : decode cJ6_bitCount_0f7a4 34 = .ok (.iload_n 0, 1) := by decide +kernel
theorem dJ6_bitCount_0f7a4_35 : decode cJ6_bitCount_0f7a4 35 = .ok (.iload_n 0, 1) := by decide +kernel
theorem dJ6_bitCount_0f7a4_36 : decode cJ6_bitCount_0f7a4 36 = .ok (.bipush 8, 2) := by decide +kernel
theorem dJ6_bitCount_0f7a4_38 : decode cJ6_bitCount_0f7a4 38 = .ok (.iushr, 1) := by decide +kernel
theorem dJ6_bitCount_0f7a4_39 : decode cJ6_bitCount_0f7a4 39 = .ok (.iadd, 1) := by decide +kernel
theorem dJ6_bitCount_0f7a4_40 : decode cJ6_bitCount_0f7a4 40 = .ok (.istore_n 0, 1) := by decide +kernel
theorem dJ6_bitCount_0f7a4_41 : decode cJ6_bitCount_0f7a4 41 = .ok (.iload_n 0, 1) := by decide +kernel
theorem dJ6_bitCount_0f7a4_42 : decode cJ6_bitCount_0f7a4 42 = .ok (.iload_n 0, 1) := by decide +kernel
theorem dJ6_bitCount_0f7a4_43 : decode cJ6_bitCount_0f7a4 43 = .ok (.bipush 16, 2) := by decide +kernel
theorem dJ6_bitCount_0f7a4_45 : decode cJ6_bitCount_0f7a4 45 = .ok (.iushr, 1) := by decide +kernel
theorem dJ6_bitCount_0f7a4_46 : decode cJ6_bitCount_0f7a4 46 = .ok (.iadd, 1) := by decide +kernel
theorem dJ6_bitCount_0f7a4_47 : decode cJ6_bitCount_0f7a4 47 = .ok (.istore_n 0, 1) := by decide +kernel
theorem dJ6_bitCount_0f7a4_48 : decode cJ6_bitCount_0f7a4 48 = .ok (.iload_n 0, 1) := by decide +kernel
theorem dJ6_bitCount_0f7a4_49 : decode cJ6_bitCount_0f7a4 49 = .ok (.bipush 63, 2) := by decide +kernel
theorem dJ6_bitCount_0f7a4_51 : decode cJ6_bitCount_0f7a4 51 = .ok (.iand, 1) := by decide +kernel
theorem dJ6_bitCount_0f7a4_52 : decode cJ6_bitCount_0f7a4 52 = .ok (.ireturn, 1) := by decide +kernel
theorem dJ9_max_7cf53_0 : decode cJ9_max_7cf53 0 = .ok (.iload_n 0, 1) := by decide +kernel
theorem dJ9_max_7cf53_1 : decode cJ9_max_7cf53 1 = .ok (.iload_n 1, 1) := by decide +kernel
theorem dJ9_max_7cf53_2 : decode cJ9_max_7cf53 2 = .ok (.if_icmp .lt 7, 3) := by decide +kernel
theorem dJ9_max_7cf53_5 : decode cJ9_max_7cf53 5 = .ok (.iload_n 0, 1) := by decide +kernel
theorem dJ9_max_7cf53_6 : decode cJ9_max_7cf53 6 = .ok (.goto 4, 3) := by decide +kernel
theorem dJ9_max_7cf53_9 : decode cJ9_max_7cf53 9 = .ok (.iload_n 1, 1) := by decide +kernel
theorem dJ9_max_7cf53_10 : decode cJ9_max_7cf53 10 = .ok (.ireturn, 1) := by decide +kernel
