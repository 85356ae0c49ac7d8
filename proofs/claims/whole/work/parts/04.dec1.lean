theorem dX7_mostCounted_0 : decode cX7_mostCounted 0 = .ok (.iconst (-1), 1) := by decide +kernel
theorem dX7_mostCounted_1 : decode cX7_mostCounted 1 = .ok (.istore_n 1, 1) := by decide +kernel
theorem dX7_mostCounted_2 : decode cX7_mostCounted 2 = .ok (.iconst 0, 1) := by decide +kernel
theorem dX7_mostCounted_3 : decode cX7_mostCounted 3 = .ok (.istore_n 2, 1) := by decide +kernel
theorem dX7_mostCounted_4 : decode cX7_mostCounted 4 = .ok (.iconst 0, 1) := by decide +kernel
theorem dX7_mostCounted_5 : decode cX7_mostCounted 5 = .ok (.istore_n 3, 1) := by decide +kernel
theorem dX7_mostCounted_6 : decode cX7_mostCounted 6 = .ok (.iload_n 3, 1) := by decide +kernel
theorem dX7_mostCounted_7 : decode cX7_mostCounted 7 = .ok (.sipush 200, 3) := by decide +kernel
theorem dX7_mostCounted_10 : decode cX7_mostCounted 10 = .ok (.if_icmp .ge 28, 3) := by decide +kernel
theorem dX7_mostCounted_13 : decode cX7_mostCounted 13 = .ok (.aload_n 0, 1) := by decide +kernel
theorem dX7_mostCounted_14 : decode cX7_mostCounted 14 = .ok (.getfield 18, 3) := by decide +kernel
theorem dX7_mostCounted_17 : decode cX7_mostCounted 17 = .ok (.iload_n 3, 1) := by decide +kernel
theorem dX7_mostCounted_18 : decode cX7_mostCounted 18 = .ok (.iaload, 1) := by decide +kernel
theorem dX7_mostCounted_19 : decode cX7_mostCounted 19 = .ok (.iload_n 2, 1) := by decide +kernel
theorem dX7_mostCounted_20 : decode cX7_mostCounted 20 = .ok (.if_icmp .le 12, 3) := by decide +kernel
theorem dX7_mostCounted_23 : decode cX7_mostCounted 23 = .ok (.aload_n 0, 1) := by decide +kernel
theorem dX7_mostCounted_24 : decode cX7_mostCounted 24 = .ok (.getfield 18, 3) := by decide +kernel
theorem dX7_mostCounted_27 : decode cX7_mostCounted 27 = .ok (.iload_n 3, 1) := by decide +kernel
theorem dX7_mostCounted_28 : decode cX7_mostCounted 28 = .ok (.iaload, 1) := by decide +kernel
theorem dX7_mostCounted_29 : decode cX7_mostCounted 29 = .ok (.istore_n 2, 1) := by decide +kernel
theorem dX7_mostCounted_30 : decode cX7_mostCounted 30 = .ok (.iload_n 3, 1) := by decide +kernel
theorem dX7_mostCounted_31 : decode cX7_mostCounted 31 = .ok (.istore_n 1, 1) := by decide +kernel
theorem dX7_mostCounted_32 : decode cX7_mostCounted 32 = .ok (.iinc 3 1, 3) := by decide +kernel
theorem dX7_mostCounted_35 : decode cX7_mostCounted 35 = .ok (.goto (-29), 3) := by decide +kernel
theorem dX7_mostCounted_38 : decode cX7_mostCounted 38 = .ok (.iload_n 1, 1) := by decide +kernel
theorem dX7_mostCounted_39 : decode cX7_mostCounted 39 = .ok (.ireturn, 1) := by decide +kernel
theorem dX8_init_0 : decode cX8_init 0 = .ok (.aload_n 0, 1) := by decide +kernel
theorem dX8_init_1 : decode cX8_init 1 = .ok (.invokespecial 3, 3) := by decide +kernel
theorem dX8_init_4 : decode cX8_init 4 = .ok (.aload_n 0, 1) := by decide +kernel
theorem dX8_init_5 : decode cX8_init 5 = .ok (.new 9, 3) := by decide +kernel
theorem dX8_init_8 : decode cX8_init 8 = .ok (.dup, 1) := by decide +kernel
theorem dX8_init_9 : decode cX8_init 9 = .ok (.invokespecial 11, 3) := by decide +kernel
theorem dX8_init_12 : decode cX8_init 12 = .ok (.putfield 12, 3) := by decide +kernel
theorem dX8_init_15 : decode cX8_init 15 = .ok (.aload_n 0, 1) := by decide +kernel
theorem dX8_init_16 : decode cX8_init 16 = .ok (.new 16, 3) := by decide +kernel
theorem dX8_init_19 : decode cX8_init 19 = .ok (.dup, 1) := by decide +kernel
theorem dX8_init_20 : decode cX8_init 20 = .ok (.invokespecial 18, 3) := by decide +kernel
theorem dX8_init_23 : decode cX8_init 23 = .ok (.putfield 19, 3) := by decide +kernel
theorem dX8_init_26 : decode cX8_init 26 = .ok (.aload_n 0, 1) := by decide +kernel
theorem dX8_init_27 : decode cX8_init 27 = .ok (.new 23, 3) := by decide +kernel
theorem dX8_init_30 : decode cX8_init 30 = .ok (.dup, 1) := by decide +kernel
theorem dX8_init_31 : decode cX8_init 31 = .ok (.invokespecial 25, 3) := by decide +kernel
theorem dX8_init_34 : decode cX8_init 34 = .ok (.putfield 26, 3) := by decide +kernel
theorem dX8_init_37 : decode cX8_init 37 = .ok (.aload_n 0, 1) := by decide +kernel
theorem dX8_init_38 : decode cX8_init 38 = .ok (.new 30, 3) := by decide +kernel
theorem dX8_init_41 : decode cX8_init 41 = .ok (.dup, 1) := by decide +kernel
theorem dX8_init_42 : decode cX8_init 42 = .ok (.aload_n 0, 1) := by decide +kernel
theorem dX8_init_43 : decode cX8_init 43 = .ok (.getfield 12, 3) := by decide +kernel
theorem dX8_init_46 : decode cX8_init 46 = .ok (.invokespecial 32, 3) := by decide +kernel
theorem dX8_init_49 : decode cX8_init 49 = .ok (.putfield 35, 3) := by decide +kernel
theorem dX8_init_52 : decode cX8_init 52 = .ok (.aload_n 0, 1) := by decide +kernel
theorem dX8_init_53 : decode cX8_init 53 = .ok (.new 39, 3) := by decide +kernel
theorem dX8_init_56 : decode cX8_init 56 = .ok (.dup, 1) := by decide +kernel
theorem dX8_init_57 : decode cX8_init 57 = .ok (.aload_n 0, 1) := by decide +kernel
theorem dX8_init_58 : decode cX8_init 58 = .ok (.getfield 12, 3) := by decide +kernel
theorem dX8_init_61 : decode cX8_init 61 = .ok (.aload_n 0, 1) := by decide +kernel
theorem dX8_init_62 : decode cX8_init 62 = .ok (.getfield 35, 3) := by decide +kernel
theorem dX8_init_65 : decode cX8_init 65 = .ok (.invokespecial 41, 3) := by decide +kernel
theorem dX8_init_68 : decode cX8_init 68 = .ok (.putfield 44, 3) := by decide +kernel
theorem dX8_init_71 : decode cX8_init 71 = .ok (.aload_n 0, 1) := by decide +kernel
theorem dX8_init_72 : decode cX8_init 72 = .ok (.new 48, 3) := by decide +kernel
theorem dX8_init_75 : decode cX8_init 75 = .ok (.dup, 1) := by decide +kernel
theorem dX8_init_76 : decode cX8_init 76 = .ok (.aload_n 0, 1) := by decide +kernel
theorem dX8_init_77 : decode cX8_init 77 = .ok (.getfield 12, 3) := by decide +kernel
theorem dX8_init_80 : decode cX8_init 80 = .ok (.aload_n 0, 1) := by decide +kernel
theorem dX8_init_81 : decode cX8_init 81 = .ok (.getfield 44, 3) := by decide +kernel
theorem dX8_init_84 : decode cX8_init 84 = .ok (.invokespecial 50, 3) := by decide +kernel
theorem dX8_init_87 : decode cX8_init 87 = .ok (.putfield 53, 3) := by decide +kernel
theorem dX8_init_90 : decode cX8_init 90 = .ok (.aload_n 0, 1) := by decide +kernel
theorem dX8_init_91 : decode cX8_init 91 = .ok (.new 57, 3) := by decide +kernel
theorem dX8_init_94 : decode cX8_init 94 = .ok (.dup, 1) := by decide +kernel
theorem dX8_init_95 : decode cX8_init 95 = .ok (.aload_n 0, 1) := by decide +kernel
theorem dX8_init_96 : decode cX8_init 96 = .ok (.getfield 12, 3) := by decide +kernel
theorem dX8_init_99 : decode cX8_init 99 = .ok (.aload_n 0, 1) := by decide +kernel
theorem dX8_init_100 : decode cX8_init 100 = .ok (.getfield 44, 3) := by decide +kernel
theorem dX8_init_103 : decode cX8_init 103 = .ok (.invokespecial 59, 3) := by decide +kernel
theorem dX8_init_106 : decode cX8_init 106 = .ok (.putfield 60, 3) := by decide +kernel
theorem dX8_init_109 : decode cX8_init 109 = .ok (.aload_n 0, 1) := by decide +kernel
theorem dX8_init_110 : decode cX8_init 110 = .ok (.new 64, 3) := by decide +kernel
theorem dX8_init_113 : decode cX8_init 113 = .ok (.dup, 1) := by decide +kernel
theorem dX8_init_114 : decode cX8_init 114 = .ok (.invokespecial 66, 3) := by decide +kernel
theorem dX8_init_117 : decode cX8_init 117 = .ok (.putfield 67, 3) := by decide +kernel
theorem dX8_init_120 : decode cX8_init 120 = .ok (.aload_n 0, 1) := by decide +kernel
theorem dX8_init_121 : decode cX8_init 121 = .ok (.iconst 0, 1) := by decide +kernel
theorem dX8_init_122 : decode cX8_init 122 = .ok (.putfield 71, 3) := by decide +kernel
theorem dX8_init_125 : decode cX8_init 125 = .ok (.return_, 1) := by decide +kernel
theorem dX8_setNodes_0 : decode cX8_setNodes 0 = .ok (.iload_n 1, 1) := by decide +kernel
theorem dX8_setNodes_1 : decode cX8_setNodes 1 = .ok (.iconst 2, 1) := by decide +kernel
theorem dX8_setNodes_2 : decode cX8_setNodes 2 = .ok (.if_icmp .lt 9, 3) := by decide +kernel
theorem dX8_setNodes_5 : decode cX8_setNodes 5 = .ok (.iload_n 1, 1) := by decide +kernel
theorem dX8_setNodes_6 : decode cX8_setNodes 6 = .ok (.bipush 12, 2) := by decide +kernel
theorem dX8_setNodes_8 : decode cX8_setNodes 8 = .ok (.if_icmp .le 13, 3) := by decide +kernel
theorem dX8_setNodes_11 : decode cX8_setNodes 11 = .ok (.new 75, 3) := by decide +kernel
theorem dX8_setNodes_14 : decode cX8_setNodes 14 = .ok (.dup, 1) := by decide +kernel
theorem dX8_setNodes_15 : decode cX8_setNodes 15 = .ok (.ldc 77, 2) := by decide +kernel
theorem dX8_setNodes_17 : decode cX8_setNodes 17 = .ok (.invokespecial 79, 3) := by decide +kernel
theorem dX8_setNodes_20 : decode cX8_setNodes 20 = .ok (.athrow, 1) := by decide +kernel
theorem dX8_setNodes_21 : decode cX8_setNodes 21 = .ok (.aload_n 0, 1) := by decide +kernel
theorem dX8_setNodes_22 : decode cX8_setNodes 22 = .ok (.getfield 12, 3) := by decide +kernel
theorem dX8_setNodes_25 : decode cX8_setNodes 25 = .ok (.iload_n 1, 1) := by decide +kernel
theorem dX8_setNodes_26 : decode cX8_setNodes 26 = .ok (.invokevirtual 82, 3) := by decide +kernel
theorem dX8_setNodes_29 : decode cX8_setNodes 29 = .ok (.aload_n 0, 1) := by decide +kernel
theorem dX8_setNodes_30 : decode cX8_setNodes 30 = .ok (.invokevirtual 86, 3) := by decide +kernel
theorem dX8_setNodes_33 : decode cX8_setNodes 33 = .ok (.return_, 1) := by decide +kernel
theorem dX8_addEdge_0 : decode cX8_addEdge 0 = .ok (.aload_n 0, 1) := by decide +kernel
theorem dX8_addEdge_1 : decode cX8_addEdge 1 = .ok (.getfield 12, 3) := by decide +kernel
theorem dX8_addEdge_4 : decode cX8_addEdge 4 = .ok (.iload_n 1, 1) := by decide +kernel
theorem dX8_addEdge_5 : decode cX8_addEdge 5 = .ok (.iload_n 2, 1) := by decide +kernel
theorem dX8_addEdge_6 : decode cX8_addEdge 6 = .ok (.invokevirtual 89, 3) := by decide +kernel
theorem dX8_addEdge_9 : decode cX8_addEdge 9 = .ok (.ifCond .ne 13, 3) := by decide +kernel
theorem dX8_addEdge_12 : decode cX8_addEdge 12 = .ok (.new 75, 3) := by decide +kernel
theorem dX8_addEdge_15 : decode cX8_addEdge 15 = .ok (.dup, 1) := by decide +kernel
theorem dX8_addEdge_16 : decode cX8_addEdge 16 = .ok (.ldc 93, 2) := by decide +kernel
theorem dX8_addEdge_18 : decode cX8_addEdge 18 = .ok (.invokespecial 79, 3) := by decide +kernel
theorem dX8_addEdge_21 : decode cX8_addEdge 21 = .ok (.athrow, 1) := by decide +kernel
theorem dX8_addEdge_22 : decode cX8_addEdge 22 = .ok (.aload_n 0, 1) := by decide +kernel
theorem dX8_addEdge_23 : decode cX8_addEdge 23 = .ok (.getfield 12, 3) := by decide +kernel
theorem dX8_addEdge_26 : decode cX8_addEdge 26 = .ok (.invokevirtual 95, 3) := by decide +kernel
theorem dX8_addEdge_29 : decode cX8_addEdge 29 = .ok (.ifCond .eq 13, 3) := by decide +kernel
theorem dX8_addEdge_32 : decode cX8_addEdge 32 = .ok (.new 99, 3) := by decide +kernel
theorem dX8_addEdge_35 : decode cX8_addEdge 35 = .ok (.dup, 1) := by decide +kernel
theorem dX8_addEdge_36 : decode cX8_addEdge 36 = .ok (.ldc 101, 2) := by decide +kernel
theorem dX8_addEdge_38 : decode cX8_addEdge 38 = .ok (.invokespecial 103, 3) := by decide +kernel
theorem dX8_addEdge_41 : decode cX8_addEdge 41 = .ok (.athrow, 1) := by decide +kernel
theorem dX8_addEdge_42 : decode cX8_addEdge 42 = .ok (.aload_n 0, 1) := by decide +kernel
theorem dX8_addEdge_43 : decode cX8_addEdge 43 = .ok (.invokevirtual 86, 3) := by decide +kernel
theorem dX8_addEdge_46 : decode cX8_addEdge 46 = .ok (.aload_n 0, 1) := by decide +kernel
theorem dX8_addEdge_47 : decode cX8_addEdge 47 = .ok (.getfield 12, 3) := by decide +kernel
theorem dX8_addEdge_50 : decode cX8_addEdge 50 = .ok (.iload_n 1, 1) := by decide +kernel
theorem dX8_addEdge_51 : decode cX8_addEdge 51 = .ok (.iload_n 2, 1) := by decide +kernel
theorem dX8_addEdge_52 : decode cX8_addEdge 52 = .ok (.invokevirtual 104, 3) := by decide +kernel
theorem dX8_addEdge_55 : decode cX8_addEdge 55 = .ok (.ireturn, 1) := by decide +kernel
theorem dX8_setWeight_0 : decode cX8_setWeight 0 = .ok (.aload_n 0, 1) := by decide +kernel
theorem dX8_setWeight_1 : decode cX8_setWeight 1 = .ok (.iload_n 1, 1) := by decide +kernel
theorem dX8_setWeight_2 : decode cX8_setWeight 2 = .ok (.invokevirtual 108, 3) := by decide +kernel
theorem dX8_setWeight_5 : decode cX8_setWeight 5 = .ok (.iload_n 2, 1) := by decide +kernel
theorem dX8_setWeight_6 : decode cX8_setWeight 6 = .ok (.ifCond .lt 9, 3) := by decide +kernel
theorem dX8_setWeight_9 : decode cX8_setWeight 9 = .ok (.iload_n 2, 1) := by decide +kernel
theorem dX8_setWeight_10 : decode cX8_setWeight 10 = .ok (.bipush 99, 2) := by decide +kernel
theorem dX8_setWeight_12 : decode cX8_setWeight 12 = .ok (.if_icmp .le 13, 3) := by decide +kernel
theorem dX8_setWeight_15 : decode cX8_setWeight 15 = .ok (.new 75, 3) := by decide +kernel
theorem dX8_setWeight_18 : decode cX8_setWeight 18 = .ok (.dup, 1) := by decide +kernel
theorem dX8_setWeight_19 : decode cX8_setWeight 19 = .ok (.ldc 111, 2) := by decide +kernel
theorem dX8_setWeight_21 : decode cX8_setWeight 21 = .ok (.invokespecial 79, 3) := by decide +kernel
theorem dX8_setWeight_24 : decode cX8_setWeight 24 = .ok (.athrow, 1) := by decide +kernel
theorem dX8_setWeight_25 : decode cX8_setWeight 25 = .ok (.aload_n 0, 1) := by decide +kernel
theorem dX8_setWeight_26 : decode cX8_setWeight 26 = .ok (.getfield 12, 3) := by decide +kernel
theorem dX8_setWeight_29 : decode cX8_setWeight 29 = .ok (.getfield 113, 3) := by decide +kernel
theorem dX8_setWeight_32 : decode cX8_setWeight 32 = .ok (.iload_n 1, 1) := by decide +kernel
theorem dX8_setWeight_33 : decode cX8_setWeight 33 = .ok (.iaload, 1) := by decide +kernel
theorem dX8_setWeight_34 : decode cX8_setWeight 34 = .ok (.istore_n 3, 1) := by decide +kernel
theorem dX8_setWeight_35 : decode cX8_setWeight 35 = .ok (.aload_n 0, 1) := by decide +kernel
theorem dX8_setWeight_36 : decode cX8_setWeight 36 = .ok (.getfield 12, 3) := by decide +kernel
theorem dX8_setWeight_39 : decode cX8_setWeight 39 = .ok (.getfield 113, 3) := by decide +kernel
theorem dX8_setWeight_42 : decode cX8_setWeight 42 = .ok (.iload_n 1, 1) := by decide +kernel
theorem dX8_setWeight_43 : decode cX8_setWeight 43 = .ok (.iload_n 2, 1) := by decide +kernel
theorem dX8_setWeight_44 : decode cX8_setWeight 44 = .ok (.iastore, 1) := by decide +kernel
theorem dX8_setWeight_45 : decode cX8_setWeight 45 = .ok (.aload_n 0, 1) := by decide +kernel
theorem dX8_setWeight_46 : decode cX8_setWeight 46 = .ok (.invokevirtual 86, 3) := by decide +kernel
theorem dX8_setWeight_49 : decode cX8_setWeight 49 = .ok (.iload_n 3, 1) := by decide +kernel
theorem dX8_setWeight_50 : decode cX8_setWeight 50 = .ok (.ireturn, 1) := by decide +kernel
theorem dX8_edgeCount_0 : decode cX8_edgeCount 0 = .ok (.aload_n 0, 1) := by decide +kernel
theorem dX8_edgeCount_1 : decode cX8_edgeCount 1 = .ok (.getfield 12, 3) := by decide +kernel
theorem dX8_edgeCount_4 : decode cX8_edgeCount 4 = .ok (.getfield 117, 3) := by decide +kernel
theorem dX8_edgeCount_7 : decode cX8_edgeCount 7 = .ok (.ireturn, 1) := by decide +kernel
theorem dX8_append_0 : decode cX8_append 0 = .ok (.iload_n 1, 1) := by decide +kernel
theorem dX8_append_1 : decode cX8_append 1 = .ok (.bipush 32, 2) := by decide +kernel
theorem dX8_append_3 : decode cX8_append 3 = .ok (.if_icmp .lt 9, 3) := by decide +kernel
theorem dX8_append_6 : decode cX8_append 6 = .ok (.iload_n 1, 1) := by decide +kernel
theorem dX8_append_7 : decode cX8_append 7 = .ok (.bipush 126, 2) := by decide +kernel
theorem dX8_append_9 : decode cX8_append 9 = .ok (.if_icmp .le 13, 3) := by decide +kernel
theorem dX8_append_12 : decode cX8_append 12 = .ok (.new 75, 3) := by decide +kernel
theorem dX8_append_15 : decode cX8_append 15 = .ok (.dup, 1) := by decide +kernel
theorem dX8_append_16 : decode cX8_append 16 = .ok (.ldc 121, 2) := by decide +kernel
theorem dX8_append_18 : decode cX8_append 18 = .ok (.invokespecial 79, 3) := by decide +kernel
theorem dX8_append_21 : decode cX8_append 21 = .ok (.athrow, 1) := by decide +kernel
theorem dX8_append_22 : decode cX8_append 22 = .ok (.aload_n 0, 1) := by decide +kernel
theorem dX8_append_23 : decode cX8_append 23 = .ok (.getfield 19, 3) := by decide +kernel
theorem dX8_append_26 : decode cX8_append 26 = .ok (.invokevirtual 123, 3) := by decide +kernel
theorem dX8_append_29 : decode cX8_append 29 = .ok (.ifCond .eq 13, 3) := by decide +kernel
theorem dX8_append_32 : decode cX8_append 32 = .ok (.new 99, 3) := by decide +kernel
theorem dX8_append_35 : decode cX8_append 35 = .ok (.dup, 1) := by decide +kernel
theorem dX8_append_36 : decode cX8_append 36 = .ok (.ldc 124, 2) := by decide +kernel
theorem dX8_append_38 : decode cX8_append 38 = .ok (.invokespecial 103, 3) := by decide +kernel
theorem dX8_append_41 : decode cX8_append 41 = .ok (.athrow, 1) := by decide +kernel
theorem dX8_append_42 : decode cX8_append 42 = .ok (.aload_n 0, 1) := by decide +kernel
theorem dX8_append_43 : decode cX8_append 43 = .ok (.getfield 19, 3) := by decide +kernel
theorem dX8_append_46 : decode cX8_append 46 = .ok (.iload_n 1, 1) := by decide +kernel
theorem dX8_append_47 : decode cX8_append 47 = .ok (.invokevirtual 126, 3) := by decide +kernel
theorem dX8_append_50 : decode cX8_append 50 = .ok (.aload_n 0, 1) := by decide +kernel
theorem dX8_append_51 : decode cX8_append 51 = .ok (.getfield 19, 3) := by decide +kernel
theorem dX8_append_54 : decode cX8_append 54 = .ok (.getfield 128, 3) := by decide +kernel
theorem dX8_append_57 : decode cX8_append 57 = .ok (.ireturn, 1) := by decide +kernel
theorem dX8_clearInput_0 : decode cX8_clearInput 0 = .ok (.aload_n 0, 1) := by decide +kernel
theorem dX8_clearInput_1 : decode cX8_clearInput 1 = .ok (.getfield 19, 3) := by decide +kernel
theorem dX8_clearInput_4 : decode cX8_clearInput 4 = .ok (.getfield 128, 3) := by decide +kernel
theorem dX8_clearInput_7 : decode cX8_clearInput 7 = .ok (.istore_n 1, 1) := by decide +kernel
theorem dX8_clearInput_8 : decode cX8_clearInput 8 = .ok (.aload_n 0, 1) := by decide +kernel
theorem dX8_clearInput_9 : decode cX8_clearInput 9 = .ok (.getfield 19, 3) := by decide +kernel
theorem dX8_clearInput_12 : decode cX8_clearInput 12 = .ok (.iconst 0, 1) := by decide +kernel
theorem dX8_clearInput_13 : decode cX8_clearInput 13 = .ok (.putfield 128, 3) := by decide +kernel
theorem dX8_clearInput_16 : decode cX8_clearInput 16 = .ok (.iload_n 1, 1) := by decide +kernel
theorem dX8_clearInput_17 : decode cX8_clearInput 17 = .ok (.ireturn, 1) := by decide +kernel
theorem dX8_firstError_0 : decode cX8_firstError 0 = .ok (.aload_n 0, 1) := by decide +kernel
theorem dX8_firstError_1 : decode cX8_firstError 1 = .ok (.getfield 26, 3) := by decide +kernel
theorem dX8_firstError_4 : decode cX8_firstError 4 = .ok (.aload_n 0, 1) := by decide +kernel
theorem dX8_firstError_5 : decode cX8_firstError 5 = .ok (.getfield 19, 3) := by decide +kernel
theorem dX8_firstError_8 : decode cX8_firstError 8 = .ok (.invokevirtual 131, 3) := by decide +kernel
theorem dX8_firstError_11 : decode cX8_firstError 11 = .ok (.ireturn, 1) := by decide +kernel
theorem dX8_load_0 : decode cX8_load 0 = .ok (.aload_n 0, 1) := by decide +kernel
theorem dX8_load_1 : decode cX8_load 1 = .ok (.getfield 26, 3) := by decide +kernel
theorem dX8_load_4 : decode cX8_load 4 = .ok (.aload_n 0, 1) := by decide +kernel
theorem dX8_load_5 : decode cX8_load 5 = .ok (.getfield 19, 3) := by decide +kernel
theorem dX8_load_8 : decode cX8_load 8 = .ok (.invokevirtual 135, 3) := by decide +kernel
theorem dX8_load_11 : decode cX8_load 11 = .ok (.ifCond .ne 13, 3) := by decide +kernel
theorem dX8_load_14 : decode cX8_load 14 = .ok (.new 99, 3) := by decide +kernel
theorem dX8_load_17 : decode cX8_load 17 = .ok (.dup, 1) := by decide +kernel
theorem dX8_load_18 : decode cX8_load 18 = .ok (.ldc 139, 2) := by decide +kernel
theorem dX8_load_20 : decode cX8_load 20 = .ok (.invokespecial 103, 3) := by decide +kernel
theorem dX8_load_23 : decode cX8_load 23 = .ok (.athrow, 1) := by decide +kernel
theorem dX8_load_24 : decode cX8_load 24 = .ok (.aload_n 0, 1) := by decide +kernel
theorem dX8_load_25 : decode cX8_load 25 = .ok (.getfield 12, 3) := by decide +kernel
theorem dX8_load_28 : decode cX8_load 28 = .ok (.aload_n 0, 1) := by decide +kernel
theorem dX8_load_29 : decode cX8_load 29 = .ok (.getfield 26, 3) := by decide +kernel
theorem dX8_load_32 : decode cX8_load 32 = .ok (.getfield 141, 3) := by decide +kernel
theorem dX8_load_35 : decode cX8_load 35 = .ok (.invokevirtual 144, 3) := by decide +kernel
theorem dX8_load_38 : decode cX8_load 38 = .ok (.aload_n 0, 1) := by decide +kernel
theorem dX8_load_39 : decode cX8_load 39 = .ok (.getfield 19, 3) := by decide +kernel
theorem dX8_load_42 : decode cX8_load 42 = .ok (.iconst 0, 1) := by decide +kernel
theorem dX8_load_43 : decode cX8_load 43 = .ok (.putfield 128, 3) := by decide +kernel
theorem dX8_load_46 : decode cX8_load 46 = .ok (.aload_n 0, 1) := by decide +kernel
theorem dX8_load_47 : decode cX8_load 47 = .ok (.invokevirtual 86, 3) := by decide +kernel
theorem dX8_load_50 : decode cX8_load 50 = .ok (.aload_n 0, 1) := by decide +kernel
theorem dX8_load_51 : decode cX8_load 51 = .ok (.getfield 12, 3) := by decide +kernel
theorem dX8_load_54 : decode cX8_load 54 = .ok (.getfield 117, 3) := by decide +kernel
theorem dX8_load_57 : decode cX8_load 57 = .ok (.ireturn, 1) := by decide +kernel
theorem dX8_analyse_0 : decode cX8_analyse 0 = .ok (.aload_n 0, 1) := by decide +kernel
theorem dX8_analyse_1 : decode cX8_analyse 1 = .ok (.invokevirtual 86, 3) := by decide +kernel
theorem dX8_analyse_4 : decode cX8_analyse 4 = .ok (.aload_n 0, 1) := by decide +kernel
theorem dX8_analyse_5 : decode cX8_analyse 5 = .ok (.getfield 35, 3) := by decide +kernel
theorem dX8_analyse_8 : decode cX8_analyse 8 = .ok (.invokevirtual 147, 3) := by decide +kernel
theorem dX8_analyse_11 : decode cX8_analyse 11 = .ok (.aload_n 0, 1) := by decide +kernel
theorem dX8_analyse_12 : decode cX8_analyse 12 = .ok (.getfield 35, 3) := by decide +kernel
theorem dX8_analyse_15 : decode cX8_analyse 15 = .ok (.invokevirtual 150, 3) := by decide +kernel
theorem dX8_analyse_18 : decode cX8_analyse 18 = .ok (.ifCond .eq 13, 3) := by decide +kernel
theorem dX8_analyse_21 : decode cX8_analyse 21 = .ok (.aload_n 0, 1) := by decide +kernel
theorem dX8_analyse_22 : decode cX8_analyse 22 = .ok (.getfield 35, 3) := by decide +kernel
theorem dX8_analyse_25 : decode cX8_analyse 25 = .ok (.invokevirtual 153, 3) := by decide +kernel
theorem dX8_analyse_28 : decode cX8_analyse 28 = .ok (.ifCond .ne 5, 3) := by decide +kernel
theorem dX8_analyse_31 : decode cX8_analyse 31 = .ok (.iconst 0, 1) := by decide +kernel
theorem dX8_analyse_32 : decode cX8_analyse 32 = .ok (.ireturn, 1) := by decide +kernel
theorem dX8_analyse_33 : decode cX8_analyse 33 = .ok (.aload_n 0, 1) := by decide +kernel
theorem dX8_analyse_34 : decode cX8_analyse 34 = .ok (.getfield 44, 3) := by decide +kernel
theorem dX8_analyse_37 : decode cX8_analyse 37 = .ok (.invokevirtual 156, 3) := by decide +kernel
theorem dX8_analyse_40 : decode cX8_analyse 40 = .ok (.aload_n 0, 1) := by decide +kernel
theorem dX8_analyse_41 : decode cX8_analyse 41 = .ok (.getfield 53, 3) := by decide +kernel
theorem dX8_analyse_44 : decode cX8_analyse 44 = .ok (.invokevirtual 159, 3) := by decide +kernel
theorem dX8_analyse_47 : decode cX8_analyse 47 = .ok (.aload_n 0, 1) := by decide +kernel
theorem dX8_analyse_48 : decode cX8_analyse 48 = .ok (.iconst 1, 1) := by decide +kernel
theorem dX8_analyse_49 : decode cX8_analyse 49 = .ok (.putfield 71, 3) := by decide +kernel
theorem dX8_analyse_52 : decode cX8_analyse 52 = .ok (.aload_n 0, 1) := by decide +kernel
theorem dX8_analyse_53 : decode cX8_analyse 53 = .ok (.getfield 44, 3) := by decide +kernel
theorem dX8_analyse_56 : decode cX8_analyse 56 = .ok (.invokevirtual 160, 3) := by decide +kernel
theorem dX8_analyse_59 : decode cX8_analyse 59 = .ok (.ireturn, 1) := by decide +kernel
theorem dX8_pathsFrom_0 : decode cX8_pathsFrom 0 = .ok (.aload_n 0, 1) := by decide +kernel
theorem dX8_pathsFrom_1 : decode cX8_pathsFrom 1 = .ok (.invokevirtual 164, 3) := by decide +kernel
theorem dX8_pathsFrom_4 : decode cX8_pathsFrom 4 = .ok (.aload_n 0, 1) := by decide +kernel
theorem dX8_pathsFrom_5 : decode cX8_pathsFrom 5 = .ok (.getfield 12, 3) := by decide +kernel
theorem dX8_pathsFrom_8 : decode cX8_pathsFrom 8 = .ok (.iload_n 1, 1) := by decide +kernel
theorem dX8_pathsFrom_9 : decode cX8_pathsFrom 9 = .ok (.invokevirtual 167, 3) := by decide +kernel
theorem dX8_pathsFrom_12 : decode cX8_pathsFrom 12 = .ok (.ifCond .ne 13, 3) := by decide +kernel
theorem dX8_pathsFrom_15 : decode cX8_pathsFrom 15 = .ok (.new 171, 3) := by decide +kernel
theorem dX8_pathsFrom_18 : decode cX8_pathsFrom 18 = .ok (.dup, 1) := by decide +kernel
theorem dX8_pathsFrom_19 : decode cX8_pathsFrom 19 = .ok (.ldc 173, 2) := by decide +kernel
theorem dX8_pathsFrom_21 : decode cX8_pathsFrom 21 = .ok (.invokespecial 175, 3) := by decide +kernel
theorem dX8_pathsFrom_24 : decode cX8_pathsFrom 24 = .ok (.athrow, 1) := by decide +kernel
theorem dX8_pathsFrom_25 : decode cX8_pathsFrom 25 = .ok (.aload_n 0, 1) := by decide +kernel
theorem dX8_pathsFrom_26 : decode cX8_pathsFrom 26 = .ok (.getfield 44, 3) := by decide +kernel
theorem dX8_pathsFrom_29 : decode cX8_pathsFrom 29 = .ok (.getfield 176, 3) := by decide +kernel
theorem dX8_pathsFrom_32 : decode cX8_pathsFrom 32 = .ok (.iload_n 1, 1) := by decide +kernel
theorem dX8_pathsFrom_33 : decode cX8_pathsFrom 33 = .ok (.iaload, 1) := by decide +kernel
theorem dX8_pathsFrom_34 : decode cX8_pathsFrom 34 = .ok (.ireturn, 1) := by decide +kernel
theorem dX8_isBack_0 : decode cX8_isBack 0 = .ok (.aload_n 0, 1) := by decide +kernel
theorem dX8_isBack_1 : decode cX8_isBack 1 = .ok (.invokevirtual 164, 3) := by decide +kernel
theorem dX8_isBack_4 : decode cX8_isBack 4 = .ok (.aload_n 0, 1) := by decide +kernel
theorem dX8_isBack_5 : decode cX8_isBack 5 = .ok (.iload_n 1, 1) := by decide +kernel
theorem dX8_isBack_6 : decode cX8_isBack 6 = .ok (.invokevirtual 108, 3) := by decide +kernel
theorem dX8_isBack_9 : decode cX8_isBack 9 = .ok (.aload_n 0, 1) := by decide +kernel
theorem dX8_isBack_10 : decode cX8_isBack 10 = .ok (.getfield 35, 3) := by decide +kernel
theorem dX8_isBack_13 : decode cX8_isBack 13 = .ok (.getfield 179, 3) := by decide +kernel
theorem dX8_isBack_16 : decode cX8_isBack 16 = .ok (.iload_n 1, 1) := by decide +kernel
theorem dX8_isBack_17 : decode cX8_isBack 17 = .ok (.baload, 1) := by decide +kernel
theorem dX8_isBack_18 : decode cX8_isBack 18 = .ok (.ireturn, 1) := by decide +kernel
theorem dX8_value_0 : decode cX8_value 0 = .ok (.aload_n 0, 1) := by decide +kernel
theorem dX8_value_1 : decode cX8_value 1 = .ok (.invokevirtual 164, 3) := by decide +kernel
theorem dX8_value_4 : decode cX8_value 4 = .ok (.aload_n 0, 1) := by decide +kernel
theorem dX8_value_5 : decode cX8_value 5 = .ok (.iload_n 1, 1) := by decide +kernel
theorem dX8_value_6 : decode cX8_value 6 = .ok (.invokevirtual 108, 3) := by decide +kernel
theorem dX8_value_9 : decode cX8_value 9 = .ok (.aload_n 0, 1) := by decide +kernel
theorem dX8_value_10 : decode cX8_value 10 = .ok (.getfield 44, 3) := by decide +kernel
theorem dX8_value_13 : decode cX8_value 13 = .ok (.getfield 183, 3) := by decide +kernel
theorem dX8_value_16 : decode cX8_value 16 = .ok (.aload_n 0, 1) := by decide +kernel
theorem dX8_value_17 : decode cX8_value 17 = .ok (.getfield 44, 3) := by decide +kernel
theorem dX8_value_20 : decode cX8_value 20 = .ok (.iload_n 1, 1) := by decide +kernel
theorem dX8_value_21 : decode cX8_value 21 = .ok (.iload_n 2, 1) := by decide +kernel
theorem dX8_value_22 : decode cX8_value 22 = .ok (.invokevirtual 186, 3) := by decide +kernel
theorem dX8_value_25 : decode cX8_value 25 = .ok (.iaload, 1) := by decide +kernel
theorem dX8_value_26 : decode cX8_value 26 = .ok (.ireturn, 1) := by decide +kernel
theorem dX8_increment_0 : decode cX8_increment 0 = .ok (.aload_n 0, 1) := by decide +kernel
theorem dX8_increment_1 : decode cX8_increment 1 = .ok (.invokevirtual 164, 3) := by decide +kernel
theorem dX8_increment_4 : decode cX8_increment 4 = .ok (.aload_n 0, 1) := by decide +kernel
theorem dX8_increment_5 : decode cX8_increment 5 = .ok (.iload_n 1, 1) := by decide +kernel
theorem dX8_increment_6 : decode cX8_increment 6 = .ok (.invokevirtual 108, 3) := by decide +kernel
theorem dX8_increment_9 : decode cX8_increment 9 = .ok (.aload_n 0, 1) := by decide +kernel
theorem dX8_increment_10 : decode cX8_increment 10 = .ok (.getfield 53, 3) := by decide +kernel
theorem dX8_increment_13 : decode cX8_increment 13 = .ok (.getfield 190, 3) := by decide +kernel
theorem dX8_increment_16 : decode cX8_increment 16 = .ok (.aload_n 0, 1) := by decide +kernel
theorem dX8_increment_17 : decode cX8_increment 17 = .ok (.getfield 44, 3) := by decide +kernel
theorem dX8_increment_20 : decode cX8_increment 20 = .ok (.iload_n 1, 1) := by decide +kernel
theorem dX8_increment_21 : decode cX8_increment 21 = .ok (.iload_n 2, 1) := by decide +kernel
theorem dX8_increment_22 : decode cX8_increment 22 = .ok (.invokevirtual 186, 3) := by decide +kernel
theorem dX8_increment_25 : decode cX8_increment 25 = .ok (.iaload, 1) := by decide +kernel
theorem dX8_increment_26 : decode cX8_increment 26 = .ok (.ireturn, 1) := by decide +kernel
theorem dX8_chords_0 : decode cX8_chords 0 = .ok (.aload_n 0, 1) := by decide +kernel
theorem dX8_chords_1 : decode cX8_chords 1 = .ok (.invokevirtual 164, 3) := by decide +kernel
theorem dX8_chords_4 : decode cX8_chords 4 = .ok (.iload_n 1, 1) := by decide +kernel
theorem dX8_chords_5 : decode cX8_chords 5 = .ok (.ifCond .eq 13, 3) := by decide +kernel
theorem dX8_chords_8 : decode cX8_chords 8 = .ok (.aload_n 0, 1) := by decide +kernel
theorem dX8_chords_9 : decode cX8_chords 9 = .ok (.getfield 53, 3) := by decide +kernel
theorem dX8_chords_12 : decode cX8_chords 12 = .ok (.getfield 193, 3) := by decide +kernel
theorem dX8_chords_15 : decode cX8_chords 15 = .ok (.goto 10, 3) := by decide +kernel
theorem dX8_chords_18 : decode cX8_chords 18 = .ok (.aload_n 0, 1) := by decide +kernel
theorem dX8_chords_19 : decode cX8_chords 19 = .ok (.getfield 53, 3) := by decide +kernel
theorem dX8_chords_22 : decode cX8_chords 22 = .ok (.getfield 196, 3) := by decide +kernel
theorem dX8_chords_25 : decode cX8_chords 25 = .ok (.ireturn, 1) := by decide +kernel
theorem dX8_pathLength_0 : decode cX8_pathLength 0 = .ok (.aload_n 0, 1) := by decide +kernel
theorem dX8_pathLength_1 : decode cX8_pathLength 1 = .ok (.invokevirtual 164, 3) := by decide +kernel
theorem dX8_pathLength_4 : decode cX8_pathLength 4 = .ok (.aload_n 0, 1) := by decide +kernel
theorem dX8_pathLength_5 : decode cX8_pathLength 5 = .ok (.iload_n 1, 1) := by decide +kernel
theorem dX8_pathLength_6 : decode cX8_pathLength 6 = .ok (.invokevirtual 199, 3) := by decide +kernel
theorem dX8_pathLength_9 : decode cX8_pathLength 9 = .ok (.aload_n 0, 1) := by decide +kernel
theorem dX8_pathLength_10 : decode cX8_pathLength 10 = .ok (.getfield 60, 3) := by decide +kernel
theorem dX8_pathLength_13 : decode cX8_pathLength 13 = .ok (.iload_n 1, 1) := by decide +kernel
theorem dX8_pathLength_14 : decode cX8_pathLength 14 = .ok (.invokevirtual 202, 3) := by decide +kernel
theorem dX8_pathLength_17 : decode cX8_pathLength 17 = .ok (.aload_n 0, 1) := by decide +kernel
theorem dX8_pathLength_18 : decode cX8_pathLength 18 = .ok (.getfield 60, 3) := by decide +kernel
theorem dX8_pathLength_21 : decode cX8_pathLength 21 = .ok (.invokevirtual 205, 3) := by decide +kernel
theorem dX8_pathLength_24 : decode cX8_pathLength 24 = .ok (.ireturn, 1) := by decide +kernel
theorem dX8_pathNode_0 : decode cX8_pathNode 0 = .ok (.aload_n 0, 1) := by decide +kernel
theorem dX8_pathNode_1 : decode cX8_pathNode 1 = .ok (.invokevirtual 164, 3) := by decide +kernel
theorem dX8_pathNode_4 : decode cX8_pathNode 4 = .ok (.aload_n 0, 1) := by decide +kernel
theorem dX8_pathNode_5 : decode cX8_pathNode 5 = .ok (.iload_n 1, 1) := by decide +kernel
theorem dX8_pathNode_6 : decode cX8_pathNode 6 = .ok (.invokevirtual 199, 3) := by decide +kernel
theorem dX8_pathNode_9 : decode cX8_pathNode 9 = .ok (.aload_n 0, 1) := by decide +kernel
theorem dX8_pathNode_10 : decode cX8_pathNode 10 = .ok (.getfield 60, 3) := by decide +kernel
theorem dX8_pathNode_13 : decode cX8_pathNode 13 = .ok (.iload_n 1, 1) := by decide +kernel
theorem dX8_pathNode_14 : decode cX8_pathNode 14 = .ok (.invokevirtual 202, 3) := by decide +kernel
theorem dX8_pathNode_17 : decode cX8_pathNode 17 = .ok (.iload_n 2, 1) := by decide +kernel
theorem dX8_pathNode_18 : decode cX8_pathNode 18 = .ok (.ifCond .lt 14, 3) := by decide +kernel
theorem dX8_pathNode_21 : decode cX8_pathNode 21 = .ok (.iload_n 2, 1) := by decide +kernel
theorem dX8_pathNode_22 : decode cX8_pathNode 22 = .ok (.aload_n 0, 1) := by decide +kernel
theorem dX8_pathNode_23 : decode cX8_pathNode 23 = .ok (.getfield 60, 3) := by decide +kernel
theorem dX8_pathNode_26 : decode cX8_pathNode 26 = .ok (.invokevirtual 205, 3) := by decide +kernel
theorem dX8_pathNode_29 : decode cX8_pathNode 29 = .ok (.if_icmp .lt 13, 3) := by decide +kernel
theorem dX8_pathNode_32 : decode cX8_pathNode 32 = .ok (.new 171, 3) := by decide +kernel
theorem dX8_pathNode_35 : decode cX8_pathNode 35 = .ok (.dup, 1) := by decide +kernel
theorem dX8_pathNode_36 : decode cX8_pathNode 36 = .ok (.ldc 208, 2) := by decide +kernel
theorem dX8_pathNode_38 : decode cX8_pathNode 38 = .ok (.invokespecial 175, 3) := by decide +kernel
theorem dX8_pathNode_41 : decode cX8_pathNode 41 = .ok (.athrow, 1) := by decide +kernel
theorem dX8_pathNode_42 : decode cX8_pathNode 42 = .ok (.aload_n 0, 1) := by decide +kernel
theorem dX8_pathNode_43 : decode cX8_pathNode 43 = .ok (.getfield 60, 3) := by decide +kernel
theorem dX8_pathNode_46 : decode cX8_pathNode 46 = .ok (.iload_n 2, 1) := by decide +kernel
theorem dX8_pathNode_47 : decode cX8_pathNode 47 = .ok (.invokevirtual 210, 3) := by decide +kernel
theorem dX8_pathNode_50 : decode cX8_pathNode 50 = .ok (.ireturn, 1) := by decide +kernel
theorem dX8_pathEdge_0 : decode cX8_pathEdge 0 = .ok (.aload_n 0, 1) := by decide +kernel
theorem dX8_pathEdge_1 : decode cX8_pathEdge 1 = .ok (.invokevirtual 164, 3) := by decide +kernel
theorem dX8_pathEdge_4 : decode cX8_pathEdge 4 = .ok (.aload_n 0, 1) := by decide +kernel
theorem dX8_pathEdge_5 : decode cX8_pathEdge 5 = .ok (.iload_n 1, 1) := by decide +kernel
theorem dX8_pathEdge_6 : decode cX8_pathEdge 6 = .ok (.invokevirtual 199, 3) := by decide +kernel
theorem dX8_pathEdge_9 : decode cX8_pathEdge 9 = .ok (.aload_n 0, 1) := by decide +kernel
theorem dX8_pathEdge_10 : decode cX8_pathEdge 10 = .ok (.getfield 60, 3) := by decide +kernel
theorem dX8_pathEdge_13 : decode cX8_pathEdge 13 = .ok (.iload_n 1, 1) := by decide +kernel
theorem dX8_pathEdge_14 : decode cX8_pathEdge 14 = .ok (.invokevirtual 202, 3) := by decide +kernel
theorem dX8_pathEdge_17 : decode cX8_pathEdge 17 = .ok (.iload_n 2, 1) := by decide +kernel
theorem dX8_pathEdge_18 : decode cX8_pathEdge 18 = .ok (.ifCond .eq 13, 3) := by decide +kernel
theorem dX8_pathEdge_21 : decode cX8_pathEdge 21 = .ok (.aload_n 0, 1) := by decide +kernel
theorem dX8_pathEdge_22 : decode cX8_pathEdge 22 = .ok (.getfield 60, 3) := by decide +kernel
theorem dX8_pathEdge_25 : decode cX8_pathEdge 25 = .ok (.invokevirtual 214, 3) := by decide +kernel
theorem dX8_pathEdge_28 : decode cX8_pathEdge 28 = .ok (.goto 10, 3) := by decide +kernel
theorem dX8_pathEdge_31 : decode cX8_pathEdge 31 = .ok (.aload_n 0, 1) := by decide +kernel
theorem dX8_pathEdge_32 : decode cX8_pathEdge 32 = .ok (.getfield 60, 3) := by decide +kernel
theorem dX8_pathEdge_35 : decode cX8_pathEdge 35 = .ok (.invokevirtual 217, 3) := by decide +kernel
theorem dX8_pathEdge_38 : decode cX8_pathEdge 38 = .ok (.ireturn, 1) := by decide +kernel
theorem dX8_findPath_0 : decode cX8_findPath 0 = .ok (.aload_n 0, 1) := by decide +kernel
theorem dX8_findPath_1 : decode cX8_findPath 1 = .ok (.invokevirtual 164, 3) := by decide +kernel
theorem dX8_findPath_4 : decode cX8_findPath 4 = .ok (.aload_n 0, 1) := by decide +kernel
theorem dX8_findPath_5 : decode cX8_findPath 5 = .ok (.getfield 60, 3) := by decide +kernel
theorem dX8_findPath_8 : decode cX8_findPath 8 = .ok (.aload_n 0, 1) := by decide +kernel
theorem dX8_findPath_9 : decode cX8_findPath 9 = .ok (.getfield 19, 3) := by decide +kernel
theorem dX8_findPath_12 : decode cX8_findPath 12 = .ok (.invokevirtual 220, 3) := by decide +kernel
theorem dX8_findPath_15 : decode cX8_findPath 15 = .ok (.ireturn, 1) := by decide +kernel
theorem dX8_start_0 : decode cX8_start 0 = .ok (.aload_n 0, 1) := by decide +kernel
theorem dX8_start_1 : decode cX8_start 1 = .ok (.invokevirtual 223, 3) := by decide +kernel
theorem dX8_start_4 : decode cX8_start 4 = .ok (.aload_n 0, 1) := by decide +kernel
theorem dX8_start_5 : decode cX8_start 5 = .ok (.getfield 67, 3) := by decide +kernel
theorem dX8_start_8 : decode cX8_start 8 = .ok (.invokevirtual 226, 3) := by decide +kernel
theorem dX8_start_11 : decode cX8_start 11 = .ok (.return_, 1) := by decide +kernel
theorem dX8_step_0 : decode cX8_step 0 = .ok (.aload_n 0, 1) := by decide +kernel
theorem dX8_step_1 : decode cX8_step 1 = .ok (.getfield 67, 3) := by decide +kernel
theorem dX8_step_4 : decode cX8_step 4 = .ok (.getfield 229, 3) := by decide +kernel
theorem dX8_step_7 : decode cX8_step 7 = .ok (.iconst (-1), 1) := by decide +kernel
theorem dX8_step_8 : decode cX8_step 8 = .ok (.if_icmp .eq 20, 3) := by decide +kernel
theorem dX8_step_11 : decode cX8_step 11 = .ok (.aload_n 0, 1) := by decide +kernel
theorem dX8_step_12 : decode cX8_step 12 = .ok (.getfield 67, 3) := by decide +kernel
theorem dX8_step_15 : decode cX8_step 15 = .ok (.getfield 229, 3) := by decide +kernel
theorem dX8_step_18 : decode cX8_step 18 = .ok (.aload_n 0, 1) := by decide +kernel
theorem dX8_step_19 : decode cX8_step 19 = .ok (.getfield 12, 3) := by decide +kernel
theorem dX8_step_22 : decode cX8_step 22 = .ok (.invokevirtual 232, 3) := by decide +kernel
theorem dX8_step_25 : decode cX8_step 25 = .ok (.if_icmp .ne 13, 3) := by decide +kernel
theorem dX8_step_28 : decode cX8_step 28 = .ok (.new 99, 3) := by decide +kernel
theorem dX8_step_31 : decode cX8_step 31 = .ok (.dup, 1) := by decide +kernel
theorem dX8_step_32 : decode cX8_step 32 = .ok (.ldc 235, 2) := by decide +kernel
theorem dX8_step_34 : decode cX8_step 34 = .ok (.invokespecial 103, 3) := by decide +kernel
theorem dX8_step_37 : decode cX8_step 37 = .ok (.athrow, 1) := by decide +kernel
theorem dX8_step_38 : decode cX8_step 38 = .ok (.aload_n 0, 1) := by decide +kernel
theorem dX8_step_39 : decode cX8_step 39 = .ok (.getfield 12, 3) := by decide +kernel
theorem dX8_step_42 : decode cX8_step 42 = .ok (.aload_n 0, 1) := by decide +kernel
theorem dX8_step_43 : decode cX8_step 43 = .ok (.getfield 67, 3) := by decide +kernel
theorem dX8_step_46 : decode cX8_step 46 = .ok (.getfield 229, 3) := by decide +kernel
theorem dX8_step_49 : decode cX8_step 49 = .ok (.iload_n 1, 1) := by decide +kernel
theorem dX8_step_50 : decode cX8_step 50 = .ok (.invokevirtual 237, 3) := by decide +kernel
theorem dX8_step_53 : decode cX8_step 53 = .ok (.istore_n 2, 1) := by decide +kernel
theorem dX8_step_54 : decode cX8_step 54 = .ok (.iload_n 2, 1) := by decide +kernel
theorem dX8_step_55 : decode cX8_step 55 = .ok (.iconst (-1), 1) := by decide +kernel
theorem dX8_step_56 : decode cX8_step 56 = .ok (.if_icmp .ne 13, 3) := by decide +kernel
theorem dX8_step_59 : decode cX8_step 59 = .ok (.new 171, 3) := by decide +kernel
theorem dX8_step_62 : decode cX8_step 62 = .ok (.dup, 1) := by decide +kernel
theorem dX8_step_63 : decode cX8_step 63 = .ok (.ldc 240, 2) := by decide +kernel
theorem dX8_step_65 : decode cX8_step 65 = .ok (.invokespecial 175, 3) := by decide +kernel
theorem dX8_step_68 : decode cX8_step 68 = .ok (.athrow, 1) := by decide +kernel
theorem dX8_step_69 : decode cX8_step 69 = .ok (.aload_n 0, 1) := by decide +kernel
theorem dX8_step_70 : decode cX8_step 70 = .ok (.iload_n 2, 1) := by decide +kernel
theorem dX8_step_71 : decode cX8_step 71 = .ok (.invokevirtual 242, 3) := by decide +kernel
theorem dX8_step_74 : decode cX8_step 74 = .ok (.aload_n 0, 1) := by decide +kernel
theorem dX8_step_75 : decode cX8_step 75 = .ok (.getfield 67, 3) := by decide +kernel
theorem dX8_step_78 : decode cX8_step 78 = .ok (.getfield 229, 3) := by decide +kernel
theorem dX8_step_81 : decode cX8_step 81 = .ok (.ireturn, 1) := by decide +kernel
theorem dX8_current_0 : decode cX8_current 0 = .ok (.aload_n 0, 1) := by decide +kernel
theorem dX8_current_1 : decode cX8_current 1 = .ok (.getfield 67, 3) := by decide +kernel
theorem dX8_current_4 : decode cX8_current 4 = .ok (.getfield 229, 3) := by decide +kernel
theorem dX8_current_7 : decode cX8_current 7 = .ok (.ireturn, 1) := by decide +kernel
theorem dX8_register_0 : decode cX8_register 0 = .ok (.aload_n 0, 1) := by decide +kernel
theorem dX8_register_1 : decode cX8_register 1 = .ok (.getfield 67, 3) := by decide +kernel
theorem dX8_register_4 : decode cX8_register 4 = .ok (.getfield 245, 3) := by decide +kernel
theorem dX8_register_7 : decode cX8_register 7 = .ok (.ireturn, 1) := by decide +kernel
theorem dX8_count_0 : decode cX8_count 0 = .ok (.aload_n 0, 1) := by decide +kernel
theorem dX8_count_1 : decode cX8_count 1 = .ok (.invokevirtual 223, 3) := by decide +kernel
theorem dX8_count_4 : decode cX8_count 4 = .ok (.aload_n 0, 1) := by decide +kernel
theorem dX8_count_5 : decode cX8_count 5 = .ok (.iload_n 1, 1) := by decide +kernel
theorem dX8_count_6 : decode cX8_count 6 = .ok (.invokevirtual 199, 3) := by decide +kernel
theorem dX8_count_9 : decode cX8_count 9 = .ok (.aload_n 0, 1) := by decide +kernel
theorem dX8_count_10 : decode cX8_count 10 = .ok (.getfield 67, 3) := by decide +kernel
theorem dX8_count_13 : decode cX8_count 13 = .ok (.getfield 248, 3) := by decide +kernel
theorem dX8_count_16 : decode cX8_count 16 = .ok (.iload_n 1, 1) := by decide +kernel
theorem dX8_count_17 : decode cX8_count 17 = .ok (.iaload, 1) := by decide +kernel
theorem dX8_count_18 : decode cX8_count 18 = .ok (.ireturn, 1) := by decide +kernel
theorem dX8_share_0 : decode cX8_share 0 = .ok (.aload_n 0, 1) := by decide +kernel
theorem dX8_share_1 : decode cX8_share 1 = .ok (.invokevirtual 223, 3) := by decide +kernel
theorem dX8_share_4 : decode cX8_share 4 = .ok (.aload_n 0, 1) := by decide +kernel
theorem dX8_share_5 : decode cX8_share 5 = .ok (.iload_n 1, 1) := by decide +kernel
theorem dX8_share_6 : decode cX8_share 6 = .ok (.invokevirtual 199, 3) := by decide +kernel
theorem dX8_share_9 : decode cX8_share 9 = .ok (.aload_n 0, 1) := by decide +kernel
theorem dX8_share_10 : decode cX8_share 10 = .ok (.getfield 67, 3) := by decide +kernel
theorem dX8_share_13 : decode cX8_share 13 = .ok (.getfield 251, 3) := by decide +kernel
theorem dX8_share_16 : decode cX8_share 16 = .ok (.ifCond .ne 5, 3) := by decide +kernel
theorem dX8_share_19 : decode cX8_share 19 = .ok (.dconst 0, 1) := by decide +kernel
theorem dX8_share_20 : decode cX8_share 20 = .ok (.dreturn, 1) := by decide +kernel
theorem dX8_share_21 : decode cX8_share 21 = .ok (.aload_n 0, 1) := by decide +kernel
theorem dX8_share_22 : decode cX8_share 22 = .ok (.getfield 67, 3) := by decide +kernel
theorem dX8_share_25 : decode cX8_share 25 = .ok (.getfield 248, 3) := by decide +kernel
theorem dX8_share_28 : decode cX8_share 28 = .ok (.iload_n 1, 1) := by decide +kernel
theorem dX8_share_29 : decode cX8_share 29 = .ok (.iaload, 1) := by decide +kernel
theorem dX8_share_30 : decode cX8_share 30 = .ok (.i2d, 1) := by decide +kernel
theorem dX8_share_31 : decode cX8_share 31 = .ok (.aload_n 0, 1) := by decide +kernel
theorem dX8_share_32 : decode cX8_share 32 = .ok (.getfield 67, 3) := by decide +kernel
theorem dX8_share_35 : decode cX8_share 35 = .ok (.getfield 251, 3) := by decide +kernel
theorem dX8_share_38 : decode cX8_share 38 = .ok (.i2d, 1) := by decide +kernel
theorem dX8_share_39 : decode cX8_share 39 = .ok (.ddiv, 1) := by decide +kernel
theorem dX8_share_40 : decode cX8_share 40 = .ok (.dreturn, 1) := by decide +kernel
theorem dX8_hottest_0 : decode cX8_hottest 0 = .ok (.aload_n 0, 1) := by decide +kernel
theorem dX8_hottest_1 : decode cX8_hottest 1 = .ok (.getfield 67, 3) := by decide +kernel
theorem dX8_hottest_4 : decode cX8_hottest 4 = .ok (.invokevirtual 254, 3) := by decide +kernel
theorem dX8_hottest_7 : decode cX8_hottest 7 = .ok (.ireturn, 1) := by decide +kernel
theorem dX8_edgeFrequency_0 : decode cX8_edgeFrequency 0 = .ok (.aload_n 0, 1) := by decide +kernel
theorem dX8_edgeFrequency_1 : decode cX8_edgeFrequency 1 = .ok (.invokevirtual 223, 3) := by decide +kernel
theorem dX8_edgeFrequency_4 : decode cX8_edgeFrequency 4 = .ok (.aload_n 0, 1) := by decide +kernel
theorem dX8_edgeFrequency_5 : decode cX8_edgeFrequency 5 = .ok (.iload_n 1, 1) := by decide +kernel
theorem dX8_edgeFrequency_6 : decode cX8_edgeFrequency 6 = .ok (.invokevirtual 108, 3) := by decide +kernel
theorem dX8_edgeFrequency_9 : decode cX8_edgeFrequency 9 = .ok (.aload_n 0, 1) := by decide +kernel
theorem dX8_edgeFrequency_10 : decode cX8_edgeFrequency 10 = .ok (.getfield 44, 3) := by decide +kernel
theorem dX8_edgeFrequency_13 : decode cX8_edgeFrequency 13 = .ok (.iload_n 1, 1) := by decide +kernel
theorem dX8_edgeFrequency_14 : decode cX8_edgeFrequency 14 = .ok (.iconst 1, 1) := by decide +kernel
theorem dX8_edgeFrequency_15 : decode cX8_edgeFrequency 15 = .ok (.invokevirtual 186, 3) := by decide +kernel
theorem dX8_edgeFrequency_18 : decode cX8_edgeFrequency 18 = .ok (.istore_n 2, 1) := by decide +kernel
theorem dX8_edgeFrequency_19 : decode cX8_edgeFrequency 19 = .ok (.iconst 0, 1) := by decide +kernel
theorem dX8_edgeFrequency_20 : decode cX8_edgeFrequency 20 = .ok (.istore_n 3, 1) := by decide +kernel
theorem dX8_edgeFrequency_21 : decode cX8_edgeFrequency 21 = .ok (.iconst 0, 1) := by decide +kernel
theorem dX8_edgeFrequency_22 : decode cX8_edgeFrequency 22 = .ok (.istore 4, 2) := by decide +kernel
theorem dX8_edgeFrequency_24 : decode cX8_edgeFrequency 24 = .ok (.iload 4, 2) := by decide +kernel
theorem dX8_edgeFrequency_26 : decode cX8_edgeFrequency 26 = .ok (.aload_n 0, 1) := by decide +kernel
theorem dX8_edgeFrequency_27 : decode cX8_edgeFrequency 27 = .ok (.getfield 44, 3) := by decide +kernel
theorem dX8_edgeFrequency_30 : decode cX8_edgeFrequency 30 = .ok (.invokevirtual 160, 3) := by decide +kernel
theorem dX8_edgeFrequency_33 : decode cX8_edgeFrequency 33 = .ok (.if_icmp .ge 67, 3) := by decide +kernel
theorem dX8_edgeFrequency_36 : decode cX8_edgeFrequency 36 = .ok (.iload 4, 2) := by decide +kernel
theorem dX8_edgeFrequency_38 : decode cX8_edgeFrequency 38 = .ok (.sipush 200, 3) := by decide +kernel
theorem dX8_edgeFrequency_41 : decode cX8_edgeFrequency 41 = .ok (.if_icmp .ge 59, 3) := by decide +kernel
theorem dX8_edgeFrequency_44 : decode cX8_edgeFrequency 44 = .ok (.aload_n 0, 1) := by decide +kernel
theorem dX8_edgeFrequency_45 : decode cX8_edgeFrequency 45 = .ok (.getfield 67, 3) := by decide +kernel
theorem dX8_edgeFrequency_48 : decode cX8_edgeFrequency 48 = .ok (.getfield 248, 3) := by decide +kernel
theorem dX8_edgeFrequency_51 : decode cX8_edgeFrequency 51 = .ok (.iload 4, 2) := by decide +kernel
theorem dX8_edgeFrequency_53 : decode cX8_edgeFrequency 53 = .ok (.iaload, 1) := by decide +kernel
theorem dX8_edgeFrequency_54 : decode cX8_edgeFrequency 54 = .ok (.ifCond .eq 40, 3) := by decide +kernel
theorem dX8_edgeFrequency_57 : decode cX8_edgeFrequency 57 = .ok (.aload_n 0, 1) := by decide +kernel
theorem dX8_edgeFrequency_58 : decode cX8_edgeFrequency 58 = .ok (.getfield 60, 3) := by decide +kernel
theorem dX8_edgeFrequency_61 : decode cX8_edgeFrequency 61 = .ok (.iload 4, 2) := by decide +kernel
theorem dX8_edgeFrequency_63 : decode cX8_edgeFrequency 63 = .ok (.invokevirtual 202, 3) := by decide +kernel
theorem dX8_edgeFrequency_66 : decode cX8_edgeFrequency 66 = .ok (.iload_n 3, 1) := by decide +kernel
theorem dX8_edgeFrequency_67 : decode cX8_edgeFrequency 67 = .ok (.aload_n 0, 1) := by decide +kernel
theorem dX8_edgeFrequency_68 : decode cX8_edgeFrequency 68 = .ok (.getfield 60, 3) := by decide +kernel
theorem dX8_edgeFrequency_71 : decode cX8_edgeFrequency 71 = .ok (.iload_n 2, 1) := by decide +kernel
theorem dX8_edgeFrequency_72 : decode cX8_edgeFrequency 72 = .ok (.invokevirtual 257, 3) := by decide +kernel
theorem dX8_edgeFrequency_75 : decode cX8_edgeFrequency 75 = .ok (.ifCond .eq 16, 3) := by decide +kernel
theorem dX8_edgeFrequency_78 : decode cX8_edgeFrequency 78 = .ok (.aload_n 0, 1) := by decide +kernel
theorem dX8_edgeFrequency_79 : decode cX8_edgeFrequency 79 = .ok (.getfield 67, 3) := by decide +kernel
theorem dX8_edgeFrequency_82 : decode cX8_edgeFrequency 82 = .ok (.getfield 248, 3) := by decide +kernel
theorem dX8_edgeFrequency_85 : decode cX8_edgeFrequency 85 = .ok (.iload 4, 2) := by decide +kernel
theorem dX8_edgeFrequency_87 : decode cX8_edgeFrequency 87 = .ok (.iaload, 1) := by decide +kernel
theorem dX8_edgeFrequency_88 : decode cX8_edgeFrequency 88 = .ok (.goto 4, 3) := by decide +kernel
theorem dX8_edgeFrequency_91 : decode cX8_edgeFrequency 91 = .ok (.iconst 0, 1) := by decide +kernel
theorem dX8_edgeFrequency_92 : decode cX8_edgeFrequency 92 = .ok (.iadd, 1) := by decide +kernel
theorem dX8_edgeFrequency_93 : decode cX8_edgeFrequency 93 = .ok (.istore_n 3, 1) := by decide +kernel
theorem dX8_edgeFrequency_94 : decode cX8_edgeFrequency 94 = .ok (.iinc 4 1, 3) := by decide +kernel
theorem dX8_edgeFrequency_97 : decode cX8_edgeFrequency 97 = .ok (.goto (-73), 3) := by decide +kernel
theorem dX8_edgeFrequency_100 : decode cX8_edgeFrequency 100 = .ok (.iload_n 3, 1) := by decide +kernel
theorem dX8_edgeFrequency_101 : decode cX8_edgeFrequency 101 = .ok (.ireturn, 1) := by decide +kernel
theorem dX8_digest_0 : decode cX8_digest 0 = .ok (.aload_n 0, 1) := by decide +kernel
theorem dX8_digest_1 : decode cX8_digest 1 = .ok (.ldc2_w 260, 3) := by decide +kernel
theorem dX8_digest_4 : decode cX8_digest 4 = .ok (.invokevirtual 262, 3) := by decide +kernel
theorem dX8_digest_7 : decode cX8_digest 7 = .ok (.lstore_n 1, 1) := by decide +kernel
theorem dX8_digest_8 : decode cX8_digest 8 = .ok (.lload_n 1, 1) := by decide +kernel
theorem dX8_digest_9 : decode cX8_digest 9 = .ok (.aload_n 0, 1) := by decide +kernel
theorem dX8_digest_10 : decode cX8_digest 10 = .ok (.getfield 71, 3) := by decide +kernel
theorem dX8_digest_13 : decode cX8_digest 13 = .ok (.ifCond .eq 7, 3) := by decide +kernel
theorem dX8_digest_16 : decode cX8_digest 16 = .ok (.iconst 1, 1) := by decide +kernel
theorem dX8_digest_17 : decode cX8_digest 17 = .ok (.goto 4, 3) := by decide +kernel
theorem dX8_digest_20 : decode cX8_digest 20 = .ok (.iconst 0, 1) := by decide +kernel
theorem dX8_digest_21 : decode cX8_digest 21 = .ok (.invokestatic 266, 3) := by decide +kernel
theorem dX8_digest_24 : decode cX8_digest 24 = .ok (.lstore_n 1, 1) := by decide +kernel
theorem dX8_digest_25 : decode cX8_digest 25 = .ok (.aload_n 0, 1) := by decide +kernel
theorem dX8_digest_26 : decode cX8_digest 26 = .ok (.getfield 71, 3) := by decide +kernel
theorem dX8_digest_29 : decode cX8_digest 29 = .ok (.ifCond .eq 15, 3) := by decide +kernel
theorem dX8_digest_32 : decode cX8_digest 32 = .ok (.aload_n 0, 1) := by decide +kernel
theorem dX8_digest_33 : decode cX8_digest 33 = .ok (.lload_n 1, 1) := by decide +kernel
theorem dX8_digest_34 : decode cX8_digest 34 = .ok (.invokevirtual 270, 3) := by decide +kernel
theorem dX8_digest_37 : decode cX8_digest 37 = .ok (.lstore_n 1, 1) := by decide +kernel
theorem dX8_digest_38 : decode cX8_digest 38 = .ok (.aload_n 0, 1) := by decide +kernel
theorem dX8_digest_39 : decode cX8_digest 39 = .ok (.lload_n 1, 1) := by decide +kernel
theorem dX8_digest_40 : decode cX8_digest 40 = .ok (.invokevirtual 273, 3) := by decide +kernel
theorem dX8_digest_43 : decode cX8_digest 43 = .ok (.lstore_n 1, 1) := by decide +kernel
theorem dX8_digest_44 : decode cX8_digest 44 = .ok (.lload_n 1, 1) := by decide +kernel
theorem dX8_digest_45 : decode cX8_digest 45 = .ok (.aload_n 0, 1) := by decide +kernel
theorem dX8_digest_46 : decode cX8_digest 46 = .ok (.getfield 67, 3) := by decide +kernel
theorem dX8_digest_49 : decode cX8_digest 49 = .ok (.getfield 229, 3) := by decide +kernel
theorem dX8_digest_52 : decode cX8_digest 52 = .ok (.invokestatic 266, 3) := by decide +kernel
theorem dX8_digest_55 : decode cX8_digest 55 = .ok (.lstore_n 1, 1) := by decide +kernel
theorem dX8_digest_56 : decode cX8_digest 56 = .ok (.lload_n 1, 1) := by decide +kernel
theorem dX8_digest_57 : decode cX8_digest 57 = .ok (.aload_n 0, 1) := by decide +kernel
theorem dX8_digest_58 : decode cX8_digest 58 = .ok (.getfield 67, 3) := by decide +kernel
theorem dX8_digest_61 : decode cX8_digest 61 = .ok (.getfield 245, 3) := by decide +kernel
theorem dX8_digest_64 : decode cX8_digest 64 = .ok (.invokestatic 266, 3) := by decide +kernel
theorem dX8_digest_67 : decode cX8_digest 67 = .ok (.lstore_n 1, 1) := by decide +kernel
theorem dX8_digest_68 : decode cX8_digest 68 = .ok (.lload_n 1, 1) := by decide +kernel
theorem dX8_digest_69 : decode cX8_digest 69 = .ok (.aload_n 0, 1) := by decide +kernel
theorem dX8_digest_70 : decode cX8_digest 70 = .ok (.getfield 67, 3) := by decide +kernel
theorem dX8_digest_73 : decode cX8_digest 73 = .ok (.invokevirtual 254, 3) := by decide +kernel
theorem dX8_digest_76 : decode cX8_digest 76 = .ok (.invokestatic 266, 3) := by decide +kernel
theorem dX8_digest_79 : decode cX8_digest 79 = .ok (.lstore_n 1, 1) := by decide +kernel
theorem dX8_digest_80 : decode cX8_digest 80 = .ok (.aload_n 0, 1) := by decide +kernel
theorem dX8_digest_81 : decode cX8_digest 81 = .ok (.lload_n 1, 1) := by decide +kernel
theorem dX8_digest_82 : decode cX8_digest 82 = .ok (.invokevirtual 276, 3) := by decide +kernel
theorem dX8_digest_85 : decode cX8_digest 85 = .ok (.lreturn, 1) := by decide +kernel
theorem dX8_discardAnalysis_0 : decode cX8_discardAnalysis 0 = .ok (.aload_n 0, 1) := by decide +kernel
theorem dX8_discardAnalysis_1 : decode cX8_discardAnalysis 1 = .ok (.iconst 0, 1) := by decide +kernel
theorem dX8_discardAnalysis_2 : decode cX8_discardAnalysis 2 = .ok (.putfield 71, 3) := by decide +kernel
theorem dX8_discardAnalysis_5 : decode cX8_discardAnalysis 5 = .ok (.aload_n 0, 1) := by decide +kernel
theorem dX8_discardAnalysis_6 : decode cX8_discardAnalysis 6 = .ok (.getfield 67, 3) := by decide +kernel
theorem dX8_discardAnalysis_9 : decode cX8_discardAnalysis 9 = .ok (.invokevirtual 279, 3) := by decide +kernel
theorem dX8_discardAnalysis_12 : decode cX8_discardAnalysis 12 = .ok (.return_, 1) := by decide +kernel
theorem dX8_isCountable_0 : decode cX8_isCountable 0 = .ok (.aload_n 0, 1) := by decide +kernel
theorem dX8_isCountable_1 : decode cX8_isCountable 1 = .ok (.getfield 71, 3) := by decide +kernel
theorem dX8_isCountable_4 : decode cX8_isCountable 4 = .ok (.ifCond .eq 20, 3) := by decide +kernel
theorem dX8_isCountable_7 : decode cX8_isCountable 7 = .ok (.aload_n 0, 1) := by decide +kernel
theorem dX8_isCountable_8 : decode cX8_isCountable 8 = .ok (.getfield 44, 3) := by decide +kernel
theorem dX8_isCountable_11 : decode cX8_isCountable 11 = .ok (.invokevirtual 160, 3) := by decide +kernel
theorem dX8_isCountable_14 : decode cX8_isCountable 14 = .ok (.sipush 200, 3) := by decide +kernel
theorem dX8_isCountable_17 : decode cX8_isCountable 17 = .ok (.if_icmp .gt 7, 3) := by decide +kernel
theorem dX8_isCountable_20 : decode cX8_isCountable 20 = .ok (.iconst 1, 1) := by decide +kernel
theorem dX8_isCountable_21 : decode cX8_isCountable 21 = .ok (.goto 4, 3) := by decide +kernel
theorem dX8_isCountable_24 : decode cX8_isCountable 24 = .ok (.iconst 0, 1) := by decide +kernel
theorem dX8_isCountable_25 : decode cX8_isCountable 25 = .ok (.ireturn, 1) := by decide +kernel
theorem dX8_requireAnalysis_0 : decode cX8_requireAnalysis 0 = .ok (.aload_n 0, 1) := by decide +kernel
theorem dX8_requireAnalysis_1 : decode cX8_requireAnalysis 1 = .ok (.getfield 71, 3) := by decide +kernel
theorem dX8_requireAnalysis_4 : decode cX8_requireAnalysis 4 = .ok (.ifCond .ne 14, 3) := by decide +kernel
theorem dX8_requireAnalysis_7 : decode cX8_requireAnalysis 7 = .ok (.new 99, 3) := by decide +kernel
theorem dX8_requireAnalysis_10 : decode cX8_requireAnalysis 10 = .ok (.dup, 1) := by decide +kernel
theorem dX8_requireAnalysis_11 : decode cX8_requireAnalysis 11 = .ok (.ldc_w 282, 3) := by decide +kernel
theorem dX8_requireAnalysis_14 : decode cX8_requireAnalysis 14 = .ok (.invokespecial 103, 3) := by decide +kernel
theorem dX8_requireAnalysis_17 : decode cX8_requireAnalysis 17 = .ok (.athrow, 1) := by decide +kernel
theorem dX8_requireAnalysis_18 : decode cX8_requireAnalysis 18 = .ok (.return_, 1) := by decide +kernel
theorem dX8_requireCounts_0 : decode cX8_requireCounts 0 = .ok (.aload_n 0, 1) := by decide +kernel
theorem dX8_requireCounts_1 : decode cX8_requireCounts 1 = .ok (.invokevirtual 284, 3) := by decide +kernel
theorem dX8_requireCounts_4 : decode cX8_requireCounts 4 = .ok (.ifCond .ne 14, 3) := by decide +kernel
theorem dX8_requireCounts_7 : decode cX8_requireCounts 7 = .ok (.new 99, 3) := by decide +kernel
theorem dX8_requireCounts_10 : decode cX8_requireCounts 10 = .ok (.dup, 1) := by decide +kernel
theorem dX8_requireCounts_11 : decode cX8_requireCounts 11 = .ok (.ldc_w 287, 3) := by decide +kernel
theorem dX8_requireCounts_14 : decode cX8_requireCounts 14 = .ok (.invokespecial 103, 3) := by decide +kernel
theorem dX8_requireCounts_17 : decode cX8_requireCounts 17 = .ok (.athrow, 1) := by decide +kernel
theorem dX8_requireCounts_18 : decode cX8_requireCounts 18 = .ok (.return_, 1) := by decide +kernel
theorem dX8_requireEdge_0 : decode cX8_requireEdge 0 = .ok (.aload_n 0, 1) := by decide +kernel
theorem dX8_requireEdge_1 : decode cX8_requireEdge 1 = .ok (.getfield 12, 3) := by decide +kernel
theorem dX8_requireEdge_4 : decode cX8_requireEdge 4 = .ok (.iload_n 1, 1) := by decide +kernel
theorem dX8_requireEdge_5 : decode cX8_requireEdge 5 = .ok (.invokevirtual 289, 3) := by decide +kernel
theorem dX8_requireEdge_8 : decode cX8_requireEdge 8 = .ok (.ifCond .ne 14, 3) := by decide +kernel
theorem dX8_requireEdge_11 : decode cX8_requireEdge 11 = .ok (.new 171, 3) := by decide +kernel
theorem dX8_requireEdge_14 : decode cX8_requireEdge 14 = .ok (.dup, 1) := by decide +kernel
theorem dX8_requireEdge_15 : decode cX8_requireEdge 15 = .ok (.ldc_w 292, 3) := by decide +kernel
theorem dX8_requireEdge_18 : decode cX8_requireEdge 18 = .ok (.invokespecial 175, 3) := by decide +kernel
theorem dX8_requireEdge_21 : decode cX8_requireEdge 21 = .ok (.athrow, 1) := by decide +kernel
theorem dX8_requireEdge_22 : decode cX8_requireEdge 22 = .ok (.return_, 1) := by decide +kernel
theorem dX8_requirePath_0 : decode cX8_requirePath 0 = .ok (.iload_n 1, 1) := by decide +kernel
theorem dX8_requirePath_1 : decode cX8_requirePath 1 = .ok (.ifCond .lt 14, 3) := by decide +kernel
theorem dX8_requirePath_4 : decode cX8_requirePath 4 = .ok (.iload_n 1, 1) := by decide +kernel
theorem dX8_requirePath_5 : decode cX8_requirePath 5 = .ok (.aload_n 0, 1) := by decide +kernel
theorem dX8_requirePath_6 : decode cX8_requirePath 6 = .ok (.getfield 44, 3) := by decide +kernel
theorem dX8_requirePath_9 : decode cX8_requirePath 9 = .ok (.invokevirtual 160, 3) := by decide +kernel
theorem dX8_requirePath_12 : decode cX8_requirePath 12 = .ok (.if_icmp .lt 14, 3) := by decide +kernel
theorem dX8_requirePath_15 : decode cX8_requirePath 15 = .ok (.new 171, 3) := by decide +kernel
theorem dX8_requirePath_18 : decode cX8_requirePath 18 = .ok (.dup, 1) := by decide +kernel
theorem dX8_requirePath_19 : decode cX8_requirePath 19 = .ok (.ldc_w 294, 3) := by decide +kernel
theorem dX8_requirePath_22 : decode cX8_requirePath 22 = .ok (.invokespecial 175, 3) := by decide +kernel
theorem dX8_requirePath_25 : decode cX8_requirePath 25 = .ok (.athrow, 1) := by decide +kernel
theorem dX8_requirePath_26 : decode cX8_requirePath 26 = .ok (.return_, 1) := by decide +kernel
theorem dX8_follow_0 : decode cX8_follow 0 = .ok (.aload_n 0, 1) := by decide +kernel
theorem dX8_follow_1 : decode cX8_follow 1 = .ok (.getfield 12, 3) := by decide +kernel
theorem dX8_follow_4 : decode cX8_follow 4 = .ok (.getfield 296, 3) := by decide +kernel
theorem dX8_follow_7 : decode cX8_follow 7 = .ok (.iload_n 1, 1) := by decide +kernel
theorem dX8_follow_8 : decode cX8_follow 8 = .ok (.iaload, 1) := by decide +kernel
theorem dX8_follow_9 : decode cX8_follow 9 = .ok (.istore_n 2, 1) := by decide +kernel
theorem dX8_follow_10 : decode cX8_follow 10 = .ok (.aload_n 0, 1) := by decide +kernel
theorem dX8_follow_11 : decode cX8_follow 11 = .ok (.getfield 67, 3) := by decide +kernel
theorem dX8_follow_14 : decode cX8_follow 14 = .ok (.dup, 1) := by decide +kernel
theorem dX8_follow_15 : decode cX8_follow 15 = .ok (.getfield 245, 3) := by decide +kernel
theorem dX8_follow_18 : decode cX8_follow 18 = .ok (.aload_n 0, 1) := by decide +kernel
theorem dX8_follow_19 : decode cX8_follow 19 = .ok (.getfield 53, 3) := by decide +kernel
theorem dX8_follow_22 : decode cX8_follow 22 = .ok (.getfield 190, 3) := by decide +kernel
theorem dX8_follow_25 : decode cX8_follow 25 = .ok (.aload_n 0, 1) := by decide +kernel
theorem dX8_follow_26 : decode cX8_follow 26 = .ok (.getfield 44, 3) := by decide +kernel
theorem dX8_follow_29 : decode cX8_follow 29 = .ok (.iload_n 1, 1) := by decide +kernel
theorem dX8_follow_30 : decode cX8_follow 30 = .ok (.iconst 1, 1) := by decide +kernel
theorem dX8_follow_31 : decode cX8_follow 31 = .ok (.invokevirtual 186, 3) := by decide +kernel
theorem dX8_follow_34 : decode cX8_follow 34 = .ok (.iaload, 1) := by decide +kernel
theorem dX8_follow_35 : decode cX8_follow 35 = .ok (.iadd, 1) := by decide +kernel
theorem dX8_follow_36 : decode cX8_follow 36 = .ok (.putfield 245, 3) := by decide +kernel
theorem dX8_follow_39 : decode cX8_follow 39 = .ok (.aload_n 0, 1) := by decide +kernel
theorem dX8_follow_40 : decode cX8_follow 40 = .ok (.getfield 35, 3) := by decide +kernel
theorem dX8_follow_43 : decode cX8_follow 43 = .ok (.getfield 179, 3) := by decide +kernel
theorem dX8_follow_46 : decode cX8_follow 46 = .ok (.iload_n 1, 1) := by decide +kernel
theorem dX8_follow_47 : decode cX8_follow 47 = .ok (.baload, 1) := by decide +kernel
theorem dX8_follow_48 : decode cX8_follow 48 = .ok (.ifCond .eq 37, 3) := by decide +kernel
theorem dX8_follow_51 : decode cX8_follow 51 = .ok (.aload_n 0, 1) := by decide +kernel
theorem dX8_follow_52 : decode cX8_follow 52 = .ok (.getfield 67, 3) := by decide +kernel
theorem dX8_follow_55 : decode cX8_follow 55 = .ok (.invokevirtual 299, 3) := by decide +kernel
theorem dX8_follow_58 : decode cX8_follow 58 = .ok (.aload_n 0, 1) := by decide +kernel
theorem dX8_follow_59 : decode cX8_follow 59 = .ok (.getfield 67, 3) := by decide +kernel
theorem dX8_follow_62 : decode cX8_follow 62 = .ok (.aload_n 0, 1) := by decide +kernel
theorem dX8_follow_63 : decode cX8_follow 63 = .ok (.getfield 53, 3) := by decide +kernel
theorem dX8_follow_66 : decode cX8_follow 66 = .ok (.getfield 190, 3) := by decide +kernel
theorem dX8_follow_69 : decode cX8_follow 69 = .ok (.aload_n 0, 1) := by decide +kernel
theorem dX8_follow_70 : decode cX8_follow 70 = .ok (.getfield 44, 3) := by decide +kernel
theorem dX8_follow_73 : decode cX8_follow 73 = .ok (.iload_n 1, 1) := by decide +kernel
theorem dX8_follow_74 : decode cX8_follow 74 = .ok (.iconst 0, 1) := by decide +kernel
theorem dX8_follow_75 : decode cX8_follow 75 = .ok (.invokevirtual 186, 3) := by decide +kernel
theorem dX8_follow_78 : decode cX8_follow 78 = .ok (.iaload, 1) := by decide +kernel
theorem dX8_follow_79 : decode cX8_follow 79 = .ok (.putfield 245, 3) := by decide +kernel
theorem dX8_follow_82 : decode cX8_follow 82 = .ok (.goto 21, 3) := by decide +kernel
theorem dX8_follow_85 : decode cX8_follow 85 = .ok (.iload_n 2, 1) := by decide +kernel
theorem dX8_follow_86 : decode cX8_follow 86 = .ok (.aload_n 0, 1) := by decide +kernel
theorem dX8_follow_87 : decode cX8_follow 87 = .ok (.getfield 12, 3) := by decide +kernel
theorem dX8_follow_90 : decode cX8_follow 90 = .ok (.invokevirtual 232, 3) := by decide +kernel
theorem dX8_follow_93 : decode cX8_follow 93 = .ok (.if_icmp .ne 10, 3) := by decide +kernel
theorem dX8_follow_96 : decode cX8_follow 96 = .ok (.aload_n 0, 1) := by decide +kernel
theorem dX8_follow_97 : decode cX8_follow 97 = .ok (.getfield 67, 3) := by decide +kernel
theorem dX8_follow_100 : decode cX8_follow 100 = .ok (.invokevirtual 299, 3) := by decide +kernel
theorem dX8_follow_103 : decode cX8_follow 103 = .ok (.aload_n 0, 1) := by decide +kernel
theorem dX8_follow_104 : decode cX8_follow 104 = .ok (.getfield 67, 3) := by decide +kernel
theorem dX8_follow_107 : decode cX8_follow 107 = .ok (.iload_n 2, 1) := by decide +kernel
theorem dX8_follow_108 : decode cX8_follow 108 = .ok (.putfield 229, 3) := by decide +kernel
theorem dX8_follow_111 : decode cX8_follow 111 = .ok (.return_, 1) := by decide +kernel
theorem dX8_mix_0 : decode cX8_mix 0 = .ok (.ldc2_w 302, 3) := by decide +kernel
theorem dX8_mix_3 : decode cX8_mix 3 = .ok (.lload_n 0, 1) := by decide +kernel
theorem dX8_mix_4 : decode cX8_mix 4 = .ok (.lmul, 1) := by decide +kernel
theorem dX8_mix_5 : decode cX8_mix 5 = .ok (.iload_n 2, 1) := by decide +kernel
theorem dX8_mix_6 : decode cX8_mix 6 = .ok (.i2l, 1) := by decide +kernel
theorem dX8_mix_7 : decode cX8_mix 7 = .ok (.ladd, 1) := by decide +kernel
theorem dX8_mix_8 : decode cX8_mix 8 = .ok (.lreturn, 1) := by decide +kernel
theorem dX8_mixGraph_0 : decode cX8_mixGraph 0 = .ok (.lload_n 1, 1) := by decide +kernel
theorem dX8_mixGraph_1 : decode cX8_mixGraph 1 = .ok (.aload_n 0, 1) := by decide +kernel
theorem dX8_mixGraph_2 : decode cX8_mixGraph 2 = .ok (.getfield 12, 3) := by decide +kernel
theorem dX8_mixGraph_5 : decode cX8_mixGraph 5 = .ok (.getfield 304, 3) := by decide +kernel
theorem dX8_mixGraph_8 : decode cX8_mixGraph 8 = .ok (.invokestatic 266, 3) := by decide +kernel
theorem dX8_mixGraph_11 : decode cX8_mixGraph 11 = .ok (.lstore_n 3, 1) := by decide +kernel
theorem dX8_mixGraph_12 : decode cX8_mixGraph 12 = .ok (.lload_n 3, 1) := by decide +kernel
theorem dX8_mixGraph_13 : decode cX8_mixGraph 13 = .ok (.aload_n 0, 1) := by decide +kernel
theorem dX8_mixGraph_14 : decode cX8_mixGraph 14 = .ok (.getfield 12, 3) := by decide +kernel
theorem dX8_mixGraph_17 : decode cX8_mixGraph 17 = .ok (.getfield 117, 3) := by decide +kernel
theorem dX8_mixGraph_20 : decode cX8_mixGraph 20 = .ok (.invokestatic 266, 3) := by decide +kernel
theorem dX8_mixGraph_23 : decode cX8_mixGraph 23 = .ok (.lstore_n 3, 1) := by decide +kernel
theorem dX8_mixGraph_24 : decode cX8_mixGraph 24 = .ok (.iconst 0, 1) := by decide +kernel
theorem dX8_mixGraph_25 : decode cX8_mixGraph 25 = .ok (.istore 5, 2) := by decide +kernel
theorem dX8_mixGraph_27 : decode cX8_mixGraph 27 = .ok (.iload 5, 2) := by decide +kernel
theorem dX8_mixGraph_29 : decode cX8_mixGraph 29 = .ok (.aload_n 0, 1) := by decide +kernel
theorem dX8_mixGraph_30 : decode cX8_mixGraph 30 = .ok (.getfield 12, 3) := by decide +kernel
theorem dX8_mixGraph_33 : decode cX8_mixGraph 33 = .ok (.getfield 117, 3) := by decide +kernel
theorem dX8_mixGraph_36 : decode cX8_mixGraph 36 = .ok (.if_icmp .ge 54, 3) := by decide +kernel
theorem dX8_mixGraph_39 : decode cX8_mixGraph 39 = .ok (.lload_n 3, 1) := by decide +kernel
theorem dX8_mixGraph_40 : decode cX8_mixGraph 40 = .ok (.aload_n 0, 1) := by decide +kernel
theorem dX8_mixGraph_41 : decode cX8_mixGraph 41 = .ok (.getfield 12, 3) := by decide +kernel
theorem dX8_mixGraph_44 : decode cX8_mixGraph 44 = .ok (.getfield 307, 3) := by decide +kernel
theorem dX8_mixGraph_47 : decode cX8_mixGraph 47 = .ok (.iload 5, 2) := by decide +kernel
theorem dX8_mixGraph_49 : decode cX8_mixGraph 49 = .ok (.iaload, 1) := by decide +kernel
theorem dX8_mixGraph_50 : decode cX8_mixGraph 50 = .ok (.invokestatic 266, 3) := by decide +kernel
theorem dX8_mixGraph_53 : decode cX8_mixGraph 53 = .ok (.lstore_n 3, 1) := by decide +kernel
theorem dX8_mixGraph_54 : decode cX8_mixGraph 54 = .ok (.lload_n 3, 1) := by decide +kernel
theorem dX8_mixGraph_55 : decode cX8_mixGraph 55 = .ok (.aload_n 0, 1) := by decide +kernel
theorem dX8_mixGraph_56 : decode cX8_mixGraph 56 = .ok (.getfield 12, 3) := by decide +kernel
theorem dX8_mixGraph_59 : decode cX8_mixGraph 59 = .ok (.getfield 296, 3) := by decide +kernel
theorem dX8_mixGraph_62 : decode cX8_mixGraph 62 = .ok (.iload 5, 2) := by decide +kernel
theorem dX8_mixGraph_64 : decode cX8_mixGraph 64 = .ok (.iaload, 1) := by decide +kernel
theorem dX8_mixGraph_65 : decode cX8_mixGraph 65 = .ok (.invokestatic 266, 3) := by decide +kernel
theorem dX8_mixGraph_68 : decode cX8_mixGraph 68 = .ok (.lstore_n 3, 1) := by decide +kernel
theorem dX8_mixGraph_69 : decode cX8_mixGraph 69 = .ok (.lload_n 3, 1) := by decide +kernel
theorem dX8_mixGraph_70 : decode cX8_mixGraph 70 = .ok (.aload_n 0, 1) := by decide +kernel
theorem dX8_mixGraph_71 : decode cX8_mixGraph 71 = .ok (.getfield 12, 3) := by decide +kernel
theorem dX8_mixGraph_74 : decode cX8_mixGraph 74 = .ok (.getfield 113, 3) := by decide +kernel
theorem dX8_mixGraph_77 : decode cX8_mixGraph 77 = .ok (.iload 5, 2) := by decide +kernel
theorem dX8_mixGraph_79 : decode cX8_mixGraph 79 = .ok (.iaload, 1) := by decide +kernel
theorem dX8_mixGraph_80 : decode cX8_mixGraph 80 = .ok (.invokestatic 266, 3) := by decide +kernel
theorem dX8_mixGraph_83 : decode cX8_mixGraph 83 = .ok (.lstore_n 3, 1) := by decide +kernel
theorem dX8_mixGraph_84 : decode cX8_mixGraph 84 = .ok (.iinc 5 1, 3) := by decide +kernel
theorem dX8_mixGraph_87 : decode cX8_mixGraph 87 = .ok (.goto (-60), 3) := by decide +kernel
theorem dX8_mixGraph_90 : decode cX8_mixGraph 90 = .ok (.lload_n 3, 1) := by decide +kernel
theorem dX8_mixGraph_91 : decode cX8_mixGraph 91 = .ok (.lreturn, 1) := by decide +kernel
theorem dX8_mixAnalysis_0 : decode cX8_mixAnalysis 0 = .ok (.lload_n 1, 1) := by decide +kernel
theorem dX8_mixAnalysis_1 : decode cX8_mixAnalysis 1 = .ok (.lstore_n 3, 1) := by decide +kernel
theorem dX8_mixAnalysis_2 : decode cX8_mixAnalysis 2 = .ok (.iconst 0, 1) := by decide +kernel
theorem dX8_mixAnalysis_3 : decode cX8_mixAnalysis 3 = .ok (.istore 5, 2) := by decide +kernel
theorem dX8_mixAnalysis_5 : decode cX8_mixAnalysis 5 = .ok (.iload 5, 2) := by decide +kernel
theorem dX8_mixAnalysis_7 : decode cX8_mixAnalysis 7 = .ok (.aload_n 0, 1) := by decide +kernel
theorem dX8_mixAnalysis_8 : decode cX8_mixAnalysis 8 = .ok (.getfield 12, 3) := by decide +kernel
theorem dX8_mixAnalysis_11 : decode cX8_mixAnalysis 11 = .ok (.getfield 304, 3) := by decide +kernel
theorem dX8_mixAnalysis_14 : decode cX8_mixAnalysis 14 = .ok (.if_icmp .ge 24, 3) := by decide +kernel
theorem dX8_mixAnalysis_17 : decode cX8_mixAnalysis 17 = .ok (.lload_n 3, 1) := by decide +kernel
theorem dX8_mixAnalysis_18 : decode cX8_mixAnalysis 18 = .ok (.aload_n 0, 1) := by decide +kernel
theorem dX8_mixAnalysis_19 : decode cX8_mixAnalysis 19 = .ok (.getfield 44, 3) := by decide +kernel
theorem dX8_mixAnalysis_22 : decode cX8_mixAnalysis 22 = .ok (.getfield 176, 3) := by decide +kernel
theorem dX8_mixAnalysis_25 : decode cX8_mixAnalysis 25 = .ok (.iload 5, 2) := by decide +kernel
theorem dX8_mixAnalysis_27 : decode cX8_mixAnalysis 27 = .ok (.iaload, 1) := by decide +kernel
theorem dX8_mixAnalysis_28 : decode cX8_mixAnalysis 28 = .ok (.invokestatic 266, 3) := by decide +kernel
theorem dX8_mixAnalysis_31 : decode cX8_mixAnalysis 31 = .ok (.lstore_n 3, 1) := by decide +kernel
theorem dX8_mixAnalysis_32 : decode cX8_mixAnalysis 32 = .ok (.iinc 5 1, 3) := by decide +kernel
theorem dX8_mixAnalysis_35 : decode cX8_mixAnalysis 35 = .ok (.goto (-30), 3) := by decide +kernel
theorem dX8_mixAnalysis_38 : decode cX8_mixAnalysis 38 = .ok (.iconst 0, 1) := by decide +kernel
theorem dX8_mixAnalysis_39 : decode cX8_mixAnalysis 39 = .ok (.istore 5, 2) := by decide +kernel
theorem dX8_mixAnalysis_41 : decode cX8_mixAnalysis 41 = .ok (.iload 5, 2) := by decide +kernel
theorem dX8_mixAnalysis_43 : decode cX8_mixAnalysis 43 = .ok (.aload_n 0, 1) := by decide +kernel
theorem dX8_mixAnalysis_44 : decode cX8_mixAnalysis 44 = .ok (.getfield 12, 3) := by decide +kernel
theorem dX8_mixAnalysis_47 : decode cX8_mixAnalysis 47 = .ok (.getfield 117, 3) := by decide +kernel
theorem dX8_mixAnalysis_50 : decode cX8_mixAnalysis 50 = .ok (.if_icmp .ge 64, 3) := by decide +kernel
theorem dX8_mixAnalysis_53 : decode cX8_mixAnalysis 53 = .ok (.lload_n 3, 1) := by decide +kernel
theorem dX8_mixAnalysis_54 : decode cX8_mixAnalysis 54 = .ok (.aload_n 0, 1) := by decide +kernel
theorem dX8_mixAnalysis_55 : decode cX8_mixAnalysis 55 = .ok (.getfield 35, 3) := by decide +kernel
theorem dX8_mixAnalysis_58 : decode cX8_mixAnalysis 58 = .ok (.getfield 179, 3) := by decide +kernel
theorem dX8_mixAnalysis_61 : decode cX8_mixAnalysis 61 = .ok (.iload 5, 2) := by decide +kernel
theorem dX8_mixAnalysis_63 : decode cX8_mixAnalysis 63 = .ok (.baload, 1) := by decide +kernel
theorem dX8_mixAnalysis_64 : decode cX8_mixAnalysis 64 = .ok (.ifCond .eq 7, 3) := by decide +kernel
theorem dX8_mixAnalysis_67 : decode cX8_mixAnalysis 67 = .ok (.iconst 1, 1) := by decide +kernel
theorem dX8_mixAnalysis_68 : decode cX8_mixAnalysis 68 = .ok (.goto 4, 3) := by decide +kernel
theorem dX8_mixAnalysis_71 : decode cX8_mixAnalysis 71 = .ok (.iconst 0, 1) := by decide +kernel
theorem dX8_mixAnalysis_72 : decode cX8_mixAnalysis 72 = .ok (.invokestatic 266, 3) := by decide +kernel
theorem dX8_mixAnalysis_75 : decode cX8_mixAnalysis 75 = .ok (.lstore_n 3, 1) := by decide +kernel
theorem dX8_mixAnalysis_76 : decode cX8_mixAnalysis 76 = .ok (.aload_n 0, 1) := by decide +kernel
theorem dX8_mixAnalysis_77 : decode cX8_mixAnalysis 77 = .ok (.lload_n 3, 1) := by decide +kernel
theorem dX8_mixAnalysis_78 : decode cX8_mixAnalysis 78 = .ok (.aload_n 0, 1) := by decide +kernel
theorem dX8_mixAnalysis_79 : decode cX8_mixAnalysis 79 = .ok (.getfield 44, 3) := by decide +kernel
theorem dX8_mixAnalysis_82 : decode cX8_mixAnalysis 82 = .ok (.iload 5, 2) := by decide +kernel
theorem dX8_mixAnalysis_84 : decode cX8_mixAnalysis 84 = .ok (.iconst 0, 1) := by decide +kernel
theorem dX8_mixAnalysis_85 : decode cX8_mixAnalysis 85 = .ok (.invokevirtual 186, 3) := by decide +kernel
theorem dX8_mixAnalysis_88 : decode cX8_mixAnalysis 88 = .ok (.invokevirtual 310, 3) := by decide +kernel
theorem dX8_mixAnalysis_91 : decode cX8_mixAnalysis 91 = .ok (.lstore_n 3, 1) := by decide +kernel
theorem dX8_mixAnalysis_92 : decode cX8_mixAnalysis 92 = .ok (.aload_n 0, 1) := by decide +kernel
theorem dX8_mixAnalysis_93 : decode cX8_mixAnalysis 93 = .ok (.lload_n 3, 1) := by decide +kernel
theorem dX8_mixAnalysis_94 : decode cX8_mixAnalysis 94 = .ok (.aload_n 0, 1) := by decide +kernel
theorem dX8_mixAnalysis_95 : decode cX8_mixAnalysis 95 = .ok (.getfield 44, 3) := by decide +kernel
theorem dX8_mixAnalysis_98 : decode cX8_mixAnalysis 98 = .ok (.iload 5, 2) := by decide +kernel
theorem dX8_mixAnalysis_100 : decode cX8_mixAnalysis 100 = .ok (.iconst 1, 1) := by decide +kernel
theorem dX8_mixAnalysis_101 : decode cX8_mixAnalysis 101 = .ok (.invokevirtual 186, 3) := by decide +kernel
theorem dX8_mixAnalysis_104 : decode cX8_mixAnalysis 104 = .ok (.invokevirtual 310, 3) := by decide +kernel
theorem dX8_mixAnalysis_107 : decode cX8_mixAnalysis 107 = .ok (.lstore_n 3, 1) := by decide +kernel
theorem dX8_mixAnalysis_108 : decode cX8_mixAnalysis 108 = .ok (.iinc 5 1, 3) := by decide +kernel
theorem dX8_mixAnalysis_111 : decode cX8_mixAnalysis 111 = .ok (.goto (-70), 3) := by decide +kernel
theorem dX8_mixAnalysis_114 : decode cX8_mixAnalysis 114 = .ok (.lload_n 3, 1) := by decide +kernel
theorem dX8_mixAnalysis_115 : decode cX8_mixAnalysis 115 = .ok (.aload_n 0, 1) := by decide +kernel
theorem dX8_mixAnalysis_116 : decode cX8_mixAnalysis 116 = .ok (.getfield 53, 3) := by decide +kernel
theorem dX8_mixAnalysis_119 : decode cX8_mixAnalysis 119 = .ok (.getfield 196, 3) := by decide +kernel
theorem dX8_mixAnalysis_122 : decode cX8_mixAnalysis 122 = .ok (.invokestatic 266, 3) := by decide +kernel
theorem dX8_mixAnalysis_125 : decode cX8_mixAnalysis 125 = .ok (.lstore_n 3, 1) := by decide +kernel
theorem dX8_mixAnalysis_126 : decode cX8_mixAnalysis 126 = .ok (.lload_n 3, 1) := by decide +kernel
theorem dX8_mixAnalysis_127 : decode cX8_mixAnalysis 127 = .ok (.aload_n 0, 1) := by decide +kernel
theorem dX8_mixAnalysis_128 : decode cX8_mixAnalysis 128 = .ok (.getfield 53, 3) := by decide +kernel
theorem dX8_mixAnalysis_131 : decode cX8_mixAnalysis 131 = .ok (.getfield 193, 3) := by decide +kernel
theorem dX8_mixAnalysis_134 : decode cX8_mixAnalysis 134 = .ok (.invokestatic 266, 3) := by decide +kernel
theorem dX8_mixAnalysis_137 : decode cX8_mixAnalysis 137 = .ok (.lreturn, 1) := by decide +kernel
theorem dX8_mixLink_0 : decode cX8_mixLink 0 = .ok (.lload_n 1, 1) := by decide +kernel
theorem dX8_mixLink_1 : decode cX8_mixLink 1 = .ok (.aload_n 0, 1) := by decide +kernel
theorem dX8_mixLink_2 : decode cX8_mixLink 2 = .ok (.getfield 44, 3) := by decide +kernel
theorem dX8_mixLink_5 : decode cX8_mixLink 5 = .ok (.getfield 183, 3) := by decide +kernel
theorem dX8_mixLink_8 : decode cX8_mixLink 8 = .ok (.iload_n 3, 1) := by decide +kernel
theorem dX8_mixLink_9 : decode cX8_mixLink 9 = .ok (.iaload, 1) := by decide +kernel
theorem dX8_mixLink_10 : decode cX8_mixLink 10 = .ok (.invokestatic 266, 3) := by decide +kernel
theorem dX8_mixLink_13 : decode cX8_mixLink 13 = .ok (.lstore 4, 2) := by decide +kernel
theorem dX8_mixLink_15 : decode cX8_mixLink 15 = .ok (.lload 4, 2) := by decide +kernel
theorem dX8_mixLink_17 : decode cX8_mixLink 17 = .ok (.aload_n 0, 1) := by decide +kernel
theorem dX8_mixLink_18 : decode cX8_mixLink 18 = .ok (.getfield 53, 3) := by decide +kernel
theorem dX8_mixLink_21 : decode cX8_mixLink 21 = .ok (.getfield 190, 3) := by decide +kernel
theorem dX8_mixLink_24 : decode cX8_mixLink 24 = .ok (.iload_n 3, 1) := by decide +kernel
theorem dX8_mixLink_25 : decode cX8_mixLink 25 = .ok (.iaload, 1) := by decide +kernel
theorem dX8_mixLink_26 : decode cX8_mixLink 26 = .ok (.invokestatic 266, 3) := by decide +kernel
theorem dX8_mixLink_29 : decode cX8_mixLink 29 = .ok (.lreturn, 1) := by decide +kernel
theorem dX8_mixCounts_0 : decode cX8_mixCounts 0 = .ok (.lload_n 1, 1) := by decide +kernel
theorem dX8_mixCounts_1 : decode cX8_mixCounts 1 = .ok (.lstore_n 3, 1) := by decide +kernel
theorem dX8_mixCounts_2 : decode cX8_mixCounts 2 = .ok (.aload_n 0, 1) := by decide +kernel
theorem dX8_mixCounts_3 : decode cX8_mixCounts 3 = .ok (.invokevirtual 284, 3) := by decide +kernel
theorem dX8_mixCounts_6 : decode cX8_mixCounts 6 = .ok (.ifCond .eq 39, 3) := by decide +kernel
theorem dX8_mixCounts_9 : decode cX8_mixCounts 9 = .ok (.iconst 0, 1) := by decide +kernel
theorem dX8_mixCounts_10 : decode cX8_mixCounts 10 = .ok (.istore 5, 2) := by decide +kernel
theorem dX8_mixCounts_12 : decode cX8_mixCounts 12 = .ok (.iload 5, 2) := by decide +kernel
theorem dX8_mixCounts_14 : decode cX8_mixCounts 14 = .ok (.aload_n 0, 1) := by decide +kernel
theorem dX8_mixCounts_15 : decode cX8_mixCounts 15 = .ok (.getfield 44, 3) := by decide +kernel
theorem dX8_mixCounts_18 : decode cX8_mixCounts 18 = .ok (.invokevirtual 160, 3) := by decide +kernel
theorem dX8_mixCounts_21 : decode cX8_mixCounts 21 = .ok (.if_icmp .ge 24, 3) := by decide +kernel
theorem dX8_mixCounts_24 : decode cX8_mixCounts 24 = .ok (.lload_n 3, 1) := by decide +kernel
theorem dX8_mixCounts_25 : decode cX8_mixCounts 25 = .ok (.aload_n 0, 1) := by decide +kernel
theorem dX8_mixCounts_26 : decode cX8_mixCounts 26 = .ok (.getfield 67, 3) := by decide +kernel
theorem dX8_mixCounts_29 : decode cX8_mixCounts 29 = .ok (.getfield 248, 3) := by decide +kernel
theorem dX8_mixCounts_32 : decode cX8_mixCounts 32 = .ok (.iload 5, 2) := by decide +kernel
theorem dX8_mixCounts_34 : decode cX8_mixCounts 34 = .ok (.iaload, 1) := by decide +kernel
theorem dX8_mixCounts_35 : decode cX8_mixCounts 35 = .ok (.invokestatic 266, 3) := by decide +kernel
theorem dX8_mixCounts_38 : decode cX8_mixCounts 38 = .ok (.lstore_n 3, 1) := by decide +kernel
theorem dX8_mixCounts_39 : decode cX8_mixCounts 39 = .ok (.iinc 5 1, 3) := by decide +kernel
theorem dX8_mixCounts_42 : decode cX8_mixCounts 42 = .ok (.goto (-30), 3) := by decide +kernel
theorem dX8_mixCounts_45 : decode cX8_mixCounts 45 = .ok (.lload_n 3, 1) := by decide +kernel
theorem dX8_mixCounts_46 : decode cX8_mixCounts 46 = .ok (.lreturn, 1) := by decide +kernel
theorem dX8_mixText_0 : decode cX8_mixText 0 = .ok (.lload_n 1, 1) := by decide +kernel
theorem dX8_mixText_1 : decode cX8_mixText 1 = .ok (.aload_n 0, 1) := by decide +kernel
theorem dX8_mixText_2 : decode cX8_mixText 2 = .ok (.getfield 19, 3) := by decide +kernel
theorem dX8_mixText_5 : decode cX8_mixText 5 = .ok (.getfield 128, 3) := by decide +kernel
theorem dX8_mixText_8 : decode cX8_mixText 8 = .ok (.invokestatic 266, 3) := by decide +kernel
theorem dX8_mixText_11 : decode cX8_mixText 11 = .ok (.lstore_n 3, 1) := by decide +kernel
theorem dX8_mixText_12 : decode cX8_mixText 12 = .ok (.iconst 0, 1) := by decide +kernel
theorem dX8_mixText_13 : decode cX8_mixText 13 = .ok (.istore 5, 2) := by decide +kernel
theorem dX8_mixText_15 : decode cX8_mixText 15 = .ok (.iload 5, 2) := by decide +kernel
theorem dX8_mixText_17 : decode cX8_mixText 17 = .ok (.aload_n 0, 1) := by decide +kernel
theorem dX8_mixText_18 : decode cX8_mixText 18 = .ok (.getfield 19, 3) := by decide +kernel
theorem dX8_mixText_21 : decode cX8_mixText 21 = .ok (.getfield 128, 3) := by decide +kernel
theorem dX8_mixText_24 : decode cX8_mixText 24 = .ok (.if_icmp .ge 24, 3) := by decide +kernel
theorem dX8_mixText_27 : decode cX8_mixText 27 = .ok (.lload_n 3, 1) := by decide +kernel
theorem dX8_mixText_28 : decode cX8_mixText 28 = .ok (.aload_n 0, 1) := by decide +kernel
theorem dX8_mixText_29 : decode cX8_mixText 29 = .ok (.getfield 19, 3) := by decide +kernel
theorem dX8_mixText_32 : decode cX8_mixText 32 = .ok (.getfield 313, 3) := by decide +kernel
theorem dX8_mixText_35 : decode cX8_mixText 35 = .ok (.iload 5, 2) := by decide +kernel
theorem dX8_mixText_37 : decode cX8_mixText 37 = .ok (.iaload, 1) := by decide +kernel
theorem dX8_mixText_38 : decode cX8_mixText 38 = .ok (.invokestatic 266, 3) := by decide +kernel
theorem dX8_mixText_41 : decode cX8_mixText 41 = .ok (.lstore_n 3, 1) := by decide +kernel
theorem dX8_mixText_42 : decode cX8_mixText 42 = .ok (.iinc 5 1, 3) := by decide +kernel
theorem dX8_mixText_45 : decode cX8_mixText 45 = .ok (.goto (-30), 3) := by decide +kernel
theorem dX8_mixText_48 : decode cX8_mixText 48 = .ok (.lload_n 3, 1) := by decide +kernel
theorem dX8_mixText_49 : decode cX8_mixText 49 = .ok (.lreturn, 1) := by decide +kernel
theorem dX9_init_0 : decode cX9_init 0 = .ok (.aload_n 0, 1) := by decide +kernel
theorem dX9_init_1 : decode cX9_init 1 = .ok (.invokespecial 1, 3) := by decide +kernel
theorem dX9_init_4 : decode cX9_init 4 = .ok (.aload_n 0, 1) := by decide +kernel
theorem dX9_init_5 : decode cX9_init 5 = .ok (.iconst 2, 1) := by decide +kernel
theorem dX9_init_6 : decode cX9_init 6 = .ok (.putfield 7, 3) := by decide +kernel
theorem dX9_init_9 : decode cX9_init 9 = .ok (.aload_n 0, 1) := by decide +kernel
theorem dX9_init_10 : decode cX9_init 10 = .ok (.bipush 24, 2) := by decide +kernel
theorem dX9_init_12 : decode cX9_init 12 = .ok (.newarray .int, 2) := by decide +kernel
theorem dX9_init_14 : decode cX9_init 14 = .ok (.putfield 13, 3) := by decide +kernel
theorem dX9_init_17 : decode cX9_init 17 = .ok (.aload_n 0, 1) := by decide +kernel
theorem dX9_init_18 : decode cX9_init 18 = .ok (.bipush 24, 2) := by decide +kernel
theorem dX9_init_20 : decode cX9_init 20 = .ok (.newarray .int, 2) := by decide +kernel
theorem dX9_init_22 : decode cX9_init 22 = .ok (.putfield 17, 3) := by decide +kernel
theorem dX9_init_25 : decode cX9_init 25 = .ok (.aload_n 0, 1) := by decide +kernel
theorem dX9_init_26 : decode cX9_init 26 = .ok (.bipush 24, 2) := by decide +kernel
theorem dX9_init_28 : decode cX9_init 28 = .ok (.newarray .int, 2) := by decide +kernel
theorem dX9_init_30 : decode cX9_init 30 = .ok (.putfield 20, 3) := by decide +kernel
theorem dX9_init_33 : decode cX9_init 33 = .ok (.aload_n 0, 1) := by decide +kernel
theorem dX9_init_34 : decode cX9_init 34 = .ok (.bipush 60, 2) := by decide +kernel
theorem dX9_init_36 : decode cX9_init 36 = .ok (.newarray .int, 2) := by decide +kernel
theorem dX9_init_38 : decode cX9_init 38 = .ok (.putfield 23, 3) := by decide +kernel
theorem dX9_init_41 : decode cX9_init 41 = .ok (.aload_n 0, 1) := by decide +kernel
theorem dX9_init_42 : decode cX9_init 42 = .ok (.bipush 24, 2) := by decide +kernel
theorem dX9_init_44 : decode cX9_init 44 = .ok (.newarray .boolean, 2) := by decide +kernel
theorem dX9_init_46 : decode cX9_init 46 = .ok (.putfield 26, 3) := by decide +kernel
theorem dX9_init_49 : decode cX9_init 49 = .ok (.aload_n 0, 1) := by decide +kernel
theorem dX9_init_50 : decode cX9_init 50 = .ok (.bipush 12, 2) := by decide +kernel
theorem dX9_init_52 : decode cX9_init 52 = .ok (.newarray .int, 2) := by decide +kernel
theorem dX9_init_54 : decode cX9_init 54 = .ok (.putfield 30, 3) := by decide +kernel
theorem dX9_init_57 : decode cX9_init 57 = .ok (.aload_n 0, 1) := by decide +kernel
theorem dX9_init_58 : decode cX9_init 58 = .ok (.bipush 48, 2) := by decide +kernel
theorem dX9_init_60 : decode cX9_init 60 = .ok (.newarray .int, 2) := by decide +kernel
theorem dX9_init_62 : decode cX9_init 62 = .ok (.putfield 33, 3) := by decide +kernel
theorem dX9_init_65 : decode cX9_init 65 = .ok (.aload_n 0, 1) := by decide +kernel
theorem dX9_init_66 : decode cX9_init 66 = .ok (.bipush 48, 2) := by decide +kernel
theorem dX9_init_68 : decode cX9_init 68 = .ok (.newarray .int, 2) := by decide +kernel
theorem dX9_init_70 : decode cX9_init 70 = .ok (.putfield 36, 3) := by decide +kernel
theorem dX9_init_73 : decode cX9_init 73 = .ok (.aload_n 0, 1) := by decide +kernel
theorem dX9_init_74 : decode cX9_init 74 = .ok (.bipush 48, 2) := by decide +kernel
theorem dX9_init_76 : decode cX9_init 76 = .ok (.newarray .boolean, 2) := by decide +kernel
theorem dX9_init_78 : decode cX9_init 78 = .ok (.putfield 39, 3) := by decide +kernel
theorem dX9_init_81 : decode cX9_init 81 = .ok (.aload_n 0, 1) := by decide +kernel
theorem dX9_init_82 : decode cX9_init 82 = .ok (.sipush 200, 3) := by decide +kernel
theorem dX9_init_85 : decode cX9_init 85 = .ok (.newarray .int, 2) := by decide +kernel
theorem dX9_init_87 : decode cX9_init 87 = .ok (.putfield 42, 3) := by decide +kernel
theorem dX9_init_90 : decode cX9_init 90 = .ok (.aload_n 0, 1) := by decide +kernel
theorem dX9_init_91 : decode cX9_init 91 = .ok (.bipush 24, 2) := by decide +kernel
theorem dX9_init_93 : decode cX9_init 93 = .ok (.newarray .int, 2) := by decide +kernel
theorem dX9_init_95 : decode cX9_init 95 = .ok (.putfield 45, 3) := by decide +kernel
theorem dX9_init_98 : decode cX9_init 98 = .ok (.aload_n 0, 1) := by decide +kernel
theorem dX9_init_99 : decode cX9_init 99 = .ok (.bipush 24, 2) := by decide +kernel
theorem dX9_init_101 : decode cX9_init 101 = .ok (.newarray .int, 2) := by decide +kernel
theorem dX9_init_103 : decode cX9_init 103 = .ok (.putfield 48, 3) := by decide +kernel
theorem dX9_init_106 : decode cX9_init 106 = .ok (.aload_n 0, 1) := by decide +kernel
theorem dX9_init_107 : decode cX9_init 107 = .ok (.bipush 12, 2) := by decide +kernel
theorem dX9_init_109 : decode cX9_init 109 = .ok (.newarray .boolean, 2) := by decide +kernel
theorem dX9_init_111 : decode cX9_init 111 = .ok (.putfield 51, 3) := by decide +kernel
theorem dX9_init_114 : decode cX9_init 114 = .ok (.aload_n 0, 1) := by decide +kernel
theorem dX9_init_115 : decode cX9_init 115 = .ok (.bipush 12, 2) := by decide +kernel
theorem dX9_init_117 : decode cX9_init 117 = .ok (.newarray .boolean, 2) := by decide +kernel
theorem dX9_init_119 : decode cX9_init 119 = .ok (.putfield 54, 3) := by decide +kernel
theorem dX9_init_122 : decode cX9_init 122 = .ok (.aload_n 0, 1) := by decide +kernel
theorem dX9_init_123 : decode cX9_init 123 = .ok (.bipush 12, 2) := by decide +kernel
theorem dX9_init_125 : decode cX9_init 125 = .ok (.newarray .int, 2) := by decide +kernel
theorem dX9_init_127 : decode cX9_init 127 = .ok (.putfield 57, 3) := by decide +kernel
theorem dX9_init_130 : decode cX9_init 130 = .ok (.aload_n 0, 1) := by decide +kernel
theorem dX9_init_131 : decode cX9_init 131 = .ok (.bipush 12, 2) := by decide +kernel
theorem dX9_init_133 : decode cX9_init 133 = .ok (.newarray .int, 2) := by decide +kernel
theorem dX9_init_135 : decode cX9_init 135 = .ok (.putfield 60, 3) := by decide +kernel
theorem dX9_init_138 : decode cX9_init 138 = .ok (.aload_n 0, 1) := by decide +kernel
theorem dX9_init_139 : decode cX9_init 139 = .ok (.bipush 12, 2) := by decide +kernel
theorem dX9_init_141 : decode cX9_init 141 = .ok (.newarray .int, 2) := by decide +kernel
theorem dX9_init_143 : decode cX9_init 143 = .ok (.putfield 63, 3) := by decide +kernel
theorem dX9_init_146 : decode cX9_init 146 = .ok (.aload_n 0, 1) := by decide +kernel
theorem dX9_init_147 : decode cX9_init 147 = .ok (.bipush 12, 2) := by decide +kernel
theorem dX9_init_149 : decode cX9_init 149 = .ok (.newarray .int, 2) := by decide +kernel
theorem dX9_init_151 : decode cX9_init 151 = .ok (.putfield 66, 3) := by decide +kernel
theorem dX9_init_154 : decode cX9_init 154 = .ok (.aload_n 0, 1) := by decide +kernel
theorem dX9_init_155 : decode cX9_init 155 = .ok (.bipush 12, 2) := by decide +kernel
theorem dX9_init_157 : decode cX9_init 157 = .ok (.newarray .int, 2) := by decide +kernel
theorem dX9_init_159 : decode cX9_init 159 = .ok (.putfield 69, 3) := by decide +kernel
theorem dX9_init_162 : decode cX9_init 162 = .ok (.aload_n 0, 1) := by decide +kernel
theorem dX9_init_163 : decode cX9_init 163 = .ok (.bipush 12, 2) := by decide +kernel
theorem dX9_init_165 : decode cX9_init 165 = .ok (.newarray .boolean, 2) := by decide +kernel
theorem dX9_init_167 : decode cX9_init 167 = .ok (.putfield 72, 3) := by decide +kernel
theorem dX9_init_170 : decode cX9_init 170 = .ok (.aload_n 0, 1) := by decide +kernel
theorem dX9_init_171 : decode cX9_init 171 = .ok (.bipush 48, 2) := by decide +kernel
theorem dX9_init_173 : decode cX9_init 173 = .ok (.newarray .boolean, 2) := by decide +kernel
theorem dX9_init_175 : decode cX9_init 175 = .ok (.putfield 75, 3) := by decide +kernel
theorem dX9_init_178 : decode cX9_init 178 = .ok (.aload_n 0, 1) := by decide +kernel
theorem dX9_init_179 : decode cX9_init 179 = .ok (.bipush 24, 2) := by decide +kernel
theorem dX9_init_181 : decode cX9_init 181 = .ok (.newarray .int, 2) := by decide +kernel
theorem dX9_init_183 : decode cX9_init 183 = .ok (.putfield 78, 3) := by decide +kernel
theorem dX9_init_186 : decode cX9_init 186 = .ok (.return_, 1) := by decide +kernel
theorem dX9_thrown_0 : decode cX9_thrown 0 = .ok (.aload_n 0, 1) := by decide +kernel
theorem dX9_thrown_1 : decode cX9_thrown 1 = .ok (.getfield 81, 3) := by decide +kernel
theorem dX9_thrown_4 : decode cX9_thrown 4 = .ok (.ireturn, 1) := by decide +kernel
theorem dX9_within_0 : decode cX9_within 0 = .ok (.iload_n 0, 1) := by decide +kernel
theorem dX9_within_1 : decode cX9_within 1 = .ok (.iload_n 1, 1) := by decide +kernel
theorem dX9_within_2 : decode cX9_within 2 = .ok (.if_icmp .lt 12, 3) := by decide +kernel
theorem dX9_within_5 : decode cX9_within 5 = .ok (.iload_n 0, 1) := by decide +kernel
theorem dX9_within_6 : decode cX9_within 6 = .ok (.iload_n 2, 1) := by decide +kernel
theorem dX9_within_7 : decode cX9_within 7 = .ok (.if_icmp .gt 7, 3) := by decide +kernel
theorem dX9_within_10 : decode cX9_within 10 = .ok (.iconst 1, 1) := by decide +kernel
theorem dX9_within_11 : decode cX9_within 11 = .ok (.goto 4, 3) := by decide +kernel
theorem dX9_within_14 : decode cX9_within 14 = .ok (.iconst 0, 1) := by decide +kernel
theorem dX9_within_15 : decode cX9_within 15 = .ok (.ireturn, 1) := by decide +kernel
theorem dX9_discard_0 : decode cX9_discard 0 = .ok (.aload_n 0, 1) := by decide +kernel
theorem dX9_discard_1 : decode cX9_discard 1 = .ok (.iconst 0, 1) := by decide +kernel
theorem dX9_discard_2 : decode cX9_discard 2 = .ok (.putfield 84, 3) := by decide +kernel
theorem dX9_discard_5 : decode cX9_discard 5 = .ok (.aload_n 0, 1) := by decide +kernel
theorem dX9_discard_6 : decode cX9_discard 6 = .ok (.iconst 0, 1) := by decide +kernel
theorem dX9_discard_7 : decode cX9_discard 7 = .ok (.putfield 88, 3) := by decide +kernel
theorem dX9_discard_10 : decode cX9_discard 10 = .ok (.aload_n 0, 1) := by decide +kernel
theorem dX9_discard_11 : decode cX9_discard 11 = .ok (.iconst 0, 1) := by decide +kernel
theorem dX9_discard_12 : decode cX9_discard 12 = .ok (.putfield 91, 3) := by decide +kernel
theorem dX9_discard_15 : decode cX9_discard 15 = .ok (.aload_n 0, 1) := by decide +kernel
theorem dX9_discard_16 : decode cX9_discard 16 = .ok (.iconst 0, 1) := by decide +kernel
theorem dX9_discard_17 : decode cX9_discard 17 = .ok (.putfield 94, 3) := by decide +kernel
theorem dX9_discard_20 : decode cX9_discard 20 = .ok (.iconst 0, 1) := by decide +kernel
theorem dX9_discard_21 : decode cX9_discard 21 = .ok (.istore_n 1, 1) := by decide +kernel
theorem dX9_discard_22 : decode cX9_discard 22 = .ok (.iload_n 1, 1) := by decide +kernel
theorem dX9_discard_23 : decode cX9_discard 23 = .ok (.sipush 200, 3) := by decide +kernel
theorem dX9_discard_26 : decode cX9_discard 26 = .ok (.if_icmp .ge 16, 3) := by decide +kernel
theorem dX9_discard_29 : decode cX9_discard 29 = .ok (.aload_n 0, 1) := by decide +kernel
theorem dX9_discard_30 : decode cX9_discard 30 = .ok (.getfield 42, 3) := by decide +kernel
theorem dX9_discard_33 : decode cX9_discard 33 = .ok (.iload_n 1, 1) := by decide +kernel
theorem dX9_discard_34 : decode cX9_discard 34 = .ok (.iconst 0, 1) := by decide +kernel
theorem dX9_discard_35 : decode cX9_discard 35 = .ok (.iastore, 1) := by decide +kernel
theorem dX9_discard_36 : decode cX9_discard 36 = .ok (.iinc 1 1, 3) := by decide +kernel
theorem dX9_discard_39 : decode cX9_discard 39 = .ok (.goto (-17), 3) := by decide +kernel
theorem dX9_discard_42 : decode cX9_discard 42 = .ok (.return_, 1) := by decide +kernel
theorem dX9_setNodes_0 : decode cX9_setNodes 0 = .ok (.aload_n 0, 1) := by decide +kernel
theorem dX9_setNodes_1 : decode cX9_setNodes 1 = .ok (.iload_n 1, 1) := by decide +kernel
theorem dX9_setNodes_2 : decode cX9_setNodes 2 = .ok (.iconst 2, 1) := by decide +kernel
theorem dX9_setNodes_3 : decode cX9_setNodes 3 = .ok (.bipush 12, 2) := by decide +kernel
theorem dX9_setNodes_5 : decode cX9_setNodes 5 = .ok (.invokestatic 97, 3) := by decide +kernel
theorem dX9_setNodes_8 : decode cX9_setNodes 8 = .ok (.ifCond .eq 7, 3) := by decide +kernel
theorem dX9_setNodes_11 : decode cX9_setNodes 11 = .ok (.iconst 0, 1) := by decide +kernel
theorem dX9_setNodes_12 : decode cX9_setNodes 12 = .ok (.goto 4, 3) := by decide +kernel
theorem dX9_setNodes_15 : decode cX9_setNodes 15 = .ok (.iconst 1, 1) := by decide +kernel
theorem dX9_setNodes_16 : decode cX9_setNodes 16 = .ok (.putfield 81, 3) := by decide +kernel
theorem dX9_setNodes_19 : decode cX9_setNodes 19 = .ok (.aload_n 0, 1) := by decide +kernel
theorem dX9_setNodes_20 : decode cX9_setNodes 20 = .ok (.getfield 81, 3) := by decide +kernel
theorem dX9_setNodes_23 : decode cX9_setNodes 23 = .ok (.ifCond .ne 17, 3) := by decide +kernel
theorem dX9_setNodes_26 : decode cX9_setNodes 26 = .ok (.aload_n 0, 1) := by decide +kernel
theorem dX9_setNodes_27 : decode cX9_setNodes 27 = .ok (.iload_n 1, 1) := by decide +kernel
theorem dX9_setNodes_28 : decode cX9_setNodes 28 = .ok (.putfield 7, 3) := by decide +kernel
theorem dX9_setNodes_31 : decode cX9_setNodes 31 = .ok (.aload_n 0, 1) := by decide +kernel
theorem dX9_setNodes_32 : decode cX9_setNodes 32 = .ok (.iconst 0, 1) := by decide +kernel
theorem dX9_setNodes_33 : decode cX9_setNodes 33 = .ok (.putfield 101, 3) := by decide +kernel
theorem dX9_setNodes_36 : decode cX9_setNodes 36 = .ok (.aload_n 0, 1) := by decide +kernel
theorem dX9_setNodes_37 : decode cX9_setNodes 37 = .ok (.invokevirtual 104, 3) := by decide +kernel
theorem dX9_setNodes_40 : decode cX9_setNodes 40 = .ok (.return_, 1) := by decide +kernel
theorem dX9_isNode_0 : decode cX9_isNode 0 = .ok (.iload_n 1, 1) := by decide +kernel
theorem dX9_isNode_1 : decode cX9_isNode 1 = .ok (.iconst 0, 1) := by decide +kernel
theorem dX9_isNode_2 : decode cX9_isNode 2 = .ok (.aload_n 0, 1) := by decide +kernel
theorem dX9_isNode_3 : decode cX9_isNode 3 = .ok (.getfield 7, 3) := by decide +kernel
theorem dX9_isNode_6 : decode cX9_isNode 6 = .ok (.iconst 1, 1) := by decide +kernel
theorem dX9_isNode_7 : decode cX9_isNode 7 = .ok (.isub, 1) := by decide +kernel
theorem dX9_isNode_8 : decode cX9_isNode 8 = .ok (.invokestatic 97, 3) := by decide +kernel
theorem dX9_isNode_11 : decode cX9_isNode 11 = .ok (.ireturn, 1) := by decide +kernel
theorem dX9_edgeBetween_0 : decode cX9_edgeBetween 0 = .ok (.iconst 0, 1) := by decide +kernel
theorem dX9_edgeBetween_1 : decode cX9_edgeBetween 1 = .ok (.istore_n 3, 1) := by decide +kernel
theorem dX9_edgeBetween_2 : decode cX9_edgeBetween 2 = .ok (.iload_n 3, 1) := by decide +kernel
theorem dX9_edgeBetween_3 : decode cX9_edgeBetween 3 = .ok (.aload_n 0, 1) := by decide +kernel
theorem dX9_edgeBetween_4 : decode cX9_edgeBetween 4 = .ok (.getfield 101, 3) := by decide +kernel
theorem dX9_edgeBetween_7 : decode cX9_edgeBetween 7 = .ok (.if_icmp .ge 31, 3) := by decide +kernel
theorem dX9_edgeBetween_10 : decode cX9_edgeBetween 10 = .ok (.aload_n 0, 1) := by decide +kernel
theorem dX9_edgeBetween_11 : decode cX9_edgeBetween 11 = .ok (.getfield 13, 3) := by decide +kernel
theorem dX9_edgeBetween_14 : decode cX9_edgeBetween 14 = .ok (.iload_n 3, 1) := by decide +kernel
theorem dX9_edgeBetween_15 : decode cX9_edgeBetween 15 = .ok (.iaload, 1) := by decide +kernel
theorem dX9_edgeBetween_16 : decode cX9_edgeBetween 16 = .ok (.iload_n 1, 1) := by decide +kernel
theorem dX9_edgeBetween_17 : decode cX9_edgeBetween 17 = .ok (.if_icmp .ne 15, 3) := by decide +kernel
theorem dX9_edgeBetween_20 : decode cX9_edgeBetween 20 = .ok (.aload_n 0, 1) := by decide +kernel
theorem dX9_edgeBetween_21 : decode cX9_edgeBetween 21 = .ok (.getfield 17, 3) := by decide +kernel
theorem dX9_edgeBetween_24 : decode cX9_edgeBetween 24 = .ok (.iload_n 3, 1) := by decide +kernel
theorem dX9_edgeBetween_25 : decode cX9_edgeBetween 25 = .ok (.iaload, 1) := by decide +kernel
theorem dX9_edgeBetween_26 : decode cX9_edgeBetween 26 = .ok (.iload_n 2, 1) := by decide +kernel
theorem dX9_edgeBetween_27 : decode cX9_edgeBetween 27 = .ok (.if_icmp .ne 5, 3) := by decide +kernel
theorem dX9_edgeBetween_30 : decode cX9_edgeBetween 30 = .ok (.iload_n 3, 1) := by decide +kernel
theorem dX9_edgeBetween_31 : decode cX9_edgeBetween 31 = .ok (.ireturn, 1) := by decide +kernel
theorem dX9_edgeBetween_32 : decode cX9_edgeBetween 32 = .ok (.iinc 3 1, 3) := by decide +kernel
theorem dX9_edgeBetween_35 : decode cX9_edgeBetween 35 = .ok (.goto (-33), 3) := by decide +kernel
theorem dX9_edgeBetween_38 : decode cX9_edgeBetween 38 = .ok (.iconst (-1), 1) := by decide +kernel
theorem dX9_edgeBetween_39 : decode cX9_edgeBetween 39 = .ok (.ireturn, 1) := by decide +kernel
theorem dX9_put_0 : decode cX9_put 0 = .ok (.aload_n 0, 1) := by decide +kernel
theorem dX9_put_1 : decode cX9_put 1 = .ok (.getfield 13, 3) := by decide +kernel
theorem dX9_put_4 : decode cX9_put 4 = .ok (.aload_n 0, 1) := by decide +kernel
theorem dX9_put_5 : decode cX9_put 5 = .ok (.getfield 101, 3) := by decide +kernel
theorem dX9_put_8 : decode cX9_put 8 = .ok (.iload_n 1, 1) := by decide +kernel
theorem dX9_put_9 : decode cX9_put 9 = .ok (.iastore, 1) := by decide +kernel
theorem dX9_put_10 : decode cX9_put 10 = .ok (.aload_n 0, 1) := by decide +kernel
theorem dX9_put_11 : decode cX9_put 11 = .ok (.getfield 17, 3) := by decide +kernel
theorem dX9_put_14 : decode cX9_put 14 = .ok (.aload_n 0, 1) := by decide +kernel
theorem dX9_put_15 : decode cX9_put 15 = .ok (.getfield 101, 3) := by decide +kernel
theorem dX9_put_18 : decode cX9_put 18 = .ok (.iload_n 2, 1) := by decide +kernel
theorem dX9_put_19 : decode cX9_put 19 = .ok (.iastore, 1) := by decide +kernel
theorem dX9_put_20 : decode cX9_put 20 = .ok (.aload_n 0, 1) := by decide +kernel
theorem dX9_put_21 : decode cX9_put 21 = .ok (.getfield 20, 3) := by decide +kernel
theorem dX9_put_24 : decode cX9_put 24 = .ok (.aload_n 0, 1) := by decide +kernel
theorem dX9_put_25 : decode cX9_put 25 = .ok (.getfield 101, 3) := by decide +kernel
theorem dX9_put_28 : decode cX9_put 28 = .ok (.iconst 1, 1) := by decide +kernel
theorem dX9_put_29 : decode cX9_put 29 = .ok (.iastore, 1) := by decide +kernel
theorem dX9_put_30 : decode cX9_put 30 = .ok (.aload_n 0, 1) := by decide +kernel
theorem dX9_put_31 : decode cX9_put 31 = .ok (.dup, 1) := by decide +kernel
theorem dX9_put_32 : decode cX9_put 32 = .ok (.getfield 101, 3) := by decide +kernel
theorem dX9_put_35 : decode cX9_put 35 = .ok (.iconst 1, 1) := by decide +kernel
theorem dX9_put_36 : decode cX9_put 36 = .ok (.iadd, 1) := by decide +kernel
theorem dX9_put_37 : decode cX9_put 37 = .ok (.putfield 101, 3) := by decide +kernel
theorem dX9_put_40 : decode cX9_put 40 = .ok (.return_, 1) := by decide +kernel
theorem dX9_addEdge_0 : decode cX9_addEdge 0 = .ok (.aload_n 0, 1) := by decide +kernel
theorem dX9_addEdge_1 : decode cX9_addEdge 1 = .ok (.iload_n 1, 1) := by decide +kernel
theorem dX9_addEdge_2 : decode cX9_addEdge 2 = .ok (.invokevirtual 107, 3) := by decide +kernel
theorem dX9_addEdge_5 : decode cX9_addEdge 5 = .ok (.ifCond .eq 39, 3) := by decide +kernel
theorem dX9_addEdge_8 : decode cX9_addEdge 8 = .ok (.aload_n 0, 1) := by decide +kernel
theorem dX9_addEdge_9 : decode cX9_addEdge 9 = .ok (.iload_n 2, 1) := by decide +kernel
theorem dX9_addEdge_10 : decode cX9_addEdge 10 = .ok (.invokevirtual 107, 3) := by decide +kernel
theorem dX9_addEdge_13 : decode cX9_addEdge 13 = .ok (.ifCond .eq 31, 3) := by decide +kernel
theorem dX9_addEdge_16 : decode cX9_addEdge 16 = .ok (.iload_n 1, 1) := by decide +kernel
theorem dX9_addEdge_17 : decode cX9_addEdge 17 = .ok (.aload_n 0, 1) := by decide +kernel
theorem dX9_addEdge_18 : decode cX9_addEdge 18 = .ok (.getfield 7, 3) := by decide +kernel
theorem dX9_addEdge_21 : decode cX9_addEdge 21 = .ok (.iconst 1, 1) := by decide +kernel
theorem dX9_addEdge_22 : decode cX9_addEdge 22 = .ok (.isub, 1) := by decide +kernel
theorem dX9_addEdge_23 : decode cX9_addEdge 23 = .ok (.if_icmp .eq 21, 3) := by decide +kernel
theorem dX9_addEdge_26 : decode cX9_addEdge 26 = .ok (.iload_n 2, 1) := by decide +kernel
theorem dX9_addEdge_27 : decode cX9_addEdge 27 = .ok (.ifCond .eq 17, 3) := by decide +kernel
theorem dX9_addEdge_30 : decode cX9_addEdge 30 = .ok (.aload_n 0, 1) := by decide +kernel
theorem dX9_addEdge_31 : decode cX9_addEdge 31 = .ok (.iload_n 1, 1) := by decide +kernel
theorem dX9_addEdge_32 : decode cX9_addEdge 32 = .ok (.iload_n 2, 1) := by decide +kernel
theorem dX9_addEdge_33 : decode cX9_addEdge 33 = .ok (.invokevirtual 111, 3) := by decide +kernel
theorem dX9_addEdge_36 : decode cX9_addEdge 36 = .ok (.iconst (-1), 1) := by decide +kernel
theorem dX9_addEdge_37 : decode cX9_addEdge 37 = .ok (.if_icmp .ne 7, 3) := by decide +kernel
theorem dX9_addEdge_40 : decode cX9_addEdge 40 = .ok (.iconst 1, 1) := by decide +kernel
theorem dX9_addEdge_41 : decode cX9_addEdge 41 = .ok (.goto 4, 3) := by decide +kernel
theorem dX9_addEdge_44 : decode cX9_addEdge 44 = .ok (.iconst 0, 1) := by decide +kernel
theorem dX9_addEdge_45 : decode cX9_addEdge 45 = .ok (.istore_n 3, 1) := by decide +kernel
theorem dX9_addEdge_46 : decode cX9_addEdge 46 = .ok (.aload_n 0, 1) := by decide +kernel
theorem dX9_addEdge_47 : decode cX9_addEdge 47 = .ok (.iload_n 3, 1) := by decide +kernel
theorem dX9_addEdge_48 : decode cX9_addEdge 48 = .ok (.ifCond .ne 7, 3) := by decide +kernel
theorem dX9_addEdge_51 : decode cX9_addEdge 51 = .ok (.iconst 1, 1) := by decide +kernel
theorem dX9_addEdge_52 : decode cX9_addEdge 52 = .ok (.goto 17, 3) := by decide +kernel
theorem dX9_addEdge_55 : decode cX9_addEdge 55 = .ok (.aload_n 0, 1) := by decide +kernel
theorem dX9_addEdge_56 : decode cX9_addEdge 56 = .ok (.getfield 101, 3) := by decide +kernel
theorem dX9_addEdge_59 : decode cX9_addEdge 59 = .ok (.bipush 24, 2) := by decide +kernel
theorem dX9_addEdge_61 : decode cX9_addEdge 61 = .ok (.if_icmp .ne 7, 3) := by decide +kernel
theorem dX9_addEdge_64 : decode cX9_addEdge 64 = .ok (.iconst 2, 1) := by decide +kernel
theorem dX9_addEdge_65 : decode cX9_addEdge 65 = .ok (.goto 4, 3) := by decide +kernel
theorem dX9_addEdge_68 : decode cX9_addEdge 68 = .ok (.iconst 0, 1) := by decide +kernel
theorem dX9_addEdge_69 : decode cX9_addEdge 69 = .ok (.putfield 81, 3) := by decide +kernel
theorem dX9_addEdge_72 : decode cX9_addEdge 72 = .ok (.aload_n 0, 1) := by decide +kernel
theorem dX9_addEdge_73 : decode cX9_addEdge 73 = .ok (.getfield 81, 3) := by decide +kernel
theorem dX9_addEdge_76 : decode cX9_addEdge 76 = .ok (.ifCond .le 5, 3) := by decide +kernel
theorem dX9_addEdge_79 : decode cX9_addEdge 79 = .ok (.iconst 0, 1) := by decide +kernel
theorem dX9_addEdge_80 : decode cX9_addEdge 80 = .ok (.ireturn, 1) := by decide +kernel
theorem dX9_addEdge_81 : decode cX9_addEdge 81 = .ok (.aload_n 0, 1) := by decide +kernel
theorem dX9_addEdge_82 : decode cX9_addEdge 82 = .ok (.iload_n 1, 1) := by decide +kernel
theorem dX9_addEdge_83 : decode cX9_addEdge 83 = .ok (.iload_n 2, 1) := by decide +kernel
theorem dX9_addEdge_84 : decode cX9_addEdge 84 = .ok (.invokevirtual 115, 3) := by decide +kernel
theorem dX9_addEdge_87 : decode cX9_addEdge 87 = .ok (.aload_n 0, 1) := by decide +kernel
theorem dX9_addEdge_88 : decode cX9_addEdge 88 = .ok (.invokevirtual 104, 3) := by decide +kernel
theorem dX9_addEdge_91 : decode cX9_addEdge 91 = .ok (.aload_n 0, 1) := by decide +kernel
theorem dX9_addEdge_92 : decode cX9_addEdge 92 = .ok (.getfield 101, 3) := by decide +kernel
theorem dX9_addEdge_95 : decode cX9_addEdge 95 = .ok (.iconst 1, 1) := by decide +kernel
theorem dX9_addEdge_96 : decode cX9_addEdge 96 = .ok (.isub, 1) := by decide +kernel
theorem dX9_addEdge_97 : decode cX9_addEdge 97 = .ok (.ireturn, 1) := by decide +kernel
theorem dX9_isEdge_0 : decode cX9_isEdge 0 = .ok (.iload_n 1, 1) := by decide +kernel
theorem dX9_isEdge_1 : decode cX9_isEdge 1 = .ok (.iconst 0, 1) := by decide +kernel
theorem dX9_isEdge_2 : decode cX9_isEdge 2 = .ok (.aload_n 0, 1) := by decide +kernel
theorem dX9_isEdge_3 : decode cX9_isEdge 3 = .ok (.getfield 101, 3) := by decide +kernel
theorem dX9_isEdge_6 : decode cX9_isEdge 6 = .ok (.iconst 1, 1) := by decide +kernel
theorem dX9_isEdge_7 : decode cX9_isEdge 7 = .ok (.isub, 1) := by decide +kernel
theorem dX9_isEdge_8 : decode cX9_isEdge 8 = .ok (.invokestatic 97, 3) := by decide +kernel
theorem dX9_isEdge_11 : decode cX9_isEdge 11 = .ok (.ireturn, 1) := by decide +kernel
theorem dX9_setWeight_0 : decode cX9_setWeight 0 = .ok (.aload_n 0, 1) := by decide +kernel
theorem dX9_setWeight_1 : decode cX9_setWeight 1 = .ok (.aload_n 0, 1) := by decide +kernel
theorem dX9_setWeight_2 : decode cX9_setWeight 2 = .ok (.iload_n 1, 1) := by decide +kernel
theorem dX9_setWeight_3 : decode cX9_setWeight 3 = .ok (.invokevirtual 119, 3) := by decide +kernel
theorem dX9_setWeight_6 : decode cX9_setWeight 6 = .ok (.ifCond .ne 7, 3) := by decide +kernel
theorem dX9_setWeight_9 : decode cX9_setWeight 9 = .ok (.iconst 1, 1) := by decide +kernel
theorem dX9_setWeight_10 : decode cX9_setWeight 10 = .ok (.goto 18, 3) := by decide +kernel
theorem dX9_setWeight_13 : decode cX9_setWeight 13 = .ok (.iload_n 2, 1) := by decide +kernel
theorem dX9_setWeight_14 : decode cX9_setWeight 14 = .ok (.iconst 0, 1) := by decide +kernel
theorem dX9_setWeight_15 : decode cX9_setWeight 15 = .ok (.bipush 99, 2) := by decide +kernel
theorem dX9_setWeight_17 : decode cX9_setWeight 17 = .ok (.invokestatic 97, 3) := by decide +kernel
theorem dX9_setWeight_20 : decode cX9_setWeight 20 = .ok (.ifCond .eq 7, 3) := by decide +kernel
theorem dX9_setWeight_23 : decode cX9_setWeight 23 = .ok (.iconst 0, 1) := by decide +kernel
theorem dX9_setWeight_24 : decode cX9_setWeight 24 = .ok (.goto 4, 3) := by decide +kernel
theorem dX9_setWeight_27 : decode cX9_setWeight 27 = .ok (.iconst 2, 1) := by decide +kernel
theorem dX9_setWeight_28 : decode cX9_setWeight 28 = .ok (.putfield 81, 3) := by decide +kernel
theorem dX9_setWeight_31 : decode cX9_setWeight 31 = .ok (.aload_n 0, 1) := by decide +kernel
theorem dX9_setWeight_32 : decode cX9_setWeight 32 = .ok (.getfield 81, 3) := by decide +kernel
theorem dX9_setWeight_35 : decode cX9_setWeight 35 = .ok (.ifCond .le 5, 3) := by decide +kernel
theorem dX9_setWeight_38 : decode cX9_setWeight 38 = .ok (.iconst 0, 1) := by decide +kernel
theorem dX9_setWeight_39 : decode cX9_setWeight 39 = .ok (.ireturn, 1) := by decide +kernel
theorem dX9_setWeight_40 : decode cX9_setWeight 40 = .ok (.aload_n 0, 1) := by decide +kernel
theorem dX9_setWeight_41 : decode cX9_setWeight 41 = .ok (.getfield 20, 3) := by decide +kernel
theorem dX9_setWeight_44 : decode cX9_setWeight 44 = .ok (.iload_n 1, 1) := by decide +kernel
theorem dX9_setWeight_45 : decode cX9_setWeight 45 = .ok (.iaload, 1) := by decide +kernel
theorem dX9_setWeight_46 : decode cX9_setWeight 46 = .ok (.istore_n 3, 1) := by decide +kernel
theorem dX9_setWeight_47 : decode cX9_setWeight 47 = .ok (.aload_n 0, 1) := by decide +kernel
theorem dX9_setWeight_48 : decode cX9_setWeight 48 = .ok (.getfield 20, 3) := by decide +kernel
theorem dX9_setWeight_51 : decode cX9_setWeight 51 = .ok (.iload_n 1, 1) := by decide +kernel
theorem dX9_setWeight_52 : decode cX9_setWeight 52 = .ok (.iload_n 2, 1) := by decide +kernel
theorem dX9_setWeight_53 : decode cX9_setWeight 53 = .ok (.iastore, 1) := by decide +kernel
theorem dX9_setWeight_54 : decode cX9_setWeight 54 = .ok (.aload_n 0, 1) := by decide +kernel
theorem dX9_setWeight_55 : decode cX9_setWeight 55 = .ok (.invokevirtual 104, 3) := by decide +kernel
theorem dX9_setWeight_58 : decode cX9_setWeight 58 = .ok (.iload_n 3, 1) := by decide +kernel
theorem dX9_setWeight_59 : decode cX9_setWeight 59 = .ok (.ireturn, 1) := by decide +kernel
theorem dX9_edgeCount_0 : decode cX9_edgeCount 0 = .ok (.aload_n 0, 1) := by decide +kernel
theorem dX9_edgeCount_1 : decode cX9_edgeCount 1 = .ok (.iconst 0, 1) := by decide +kernel
theorem dX9_edgeCount_2 : decode cX9_edgeCount 2 = .ok (.putfield 81, 3) := by decide +kernel
theorem dX9_edgeCount_5 : decode cX9_edgeCount 5 = .ok (.aload_n 0, 1) := by decide +kernel
theorem dX9_edgeCount_6 : decode cX9_edgeCount 6 = .ok (.getfield 101, 3) := by decide +kernel
theorem dX9_edgeCount_9 : decode cX9_edgeCount 9 = .ok (.ireturn, 1) := by decide +kernel
theorem dX9_append_0 : decode cX9_append 0 = .ok (.aload_n 0, 1) := by decide +kernel
theorem dX9_append_1 : decode cX9_append 1 = .ok (.iload_n 1, 1) := by decide +kernel
theorem dX9_append_2 : decode cX9_append 2 = .ok (.bipush 32, 2) := by decide +kernel
theorem dX9_append_4 : decode cX9_append 4 = .ok (.bipush 126, 2) := by decide +kernel
theorem dX9_append_6 : decode cX9_append 6 = .ok (.invokestatic 97, 3) := by decide +kernel
theorem dX9_append_9 : decode cX9_append 9 = .ok (.ifCond .ne 7, 3) := by decide +kernel
theorem dX9_append_12 : decode cX9_append 12 = .ok (.iconst 1, 1) := by decide +kernel
theorem dX9_append_13 : decode cX9_append 13 = .ok (.goto 17, 3) := by decide +kernel
theorem dX9_append_16 : decode cX9_append 16 = .ok (.aload_n 0, 1) := by decide +kernel
theorem dX9_append_17 : decode cX9_append 17 = .ok (.getfield 122, 3) := by decide +kernel
theorem dX9_append_20 : decode cX9_append 20 = .ok (.bipush 60, 2) := by decide +kernel
theorem dX9_append_22 : decode cX9_append 22 = .ok (.if_icmp .ne 7, 3) := by decide +kernel
theorem dX9_append_25 : decode cX9_append 25 = .ok (.iconst 2, 1) := by decide +kernel
theorem dX9_append_26 : decode cX9_append 26 = .ok (.goto 4, 3) := by decide +kernel
theorem dX9_append_29 : decode cX9_append 29 = .ok (.iconst 0, 1) := by decide +kernel
theorem dX9_append_30 : decode cX9_append 30 = .ok (.putfield 81, 3) := by decide +kernel
theorem dX9_append_33 : decode cX9_append 33 = .ok (.aload_n 0, 1) := by decide +kernel
theorem dX9_append_34 : decode cX9_append 34 = .ok (.getfield 81, 3) := by decide +kernel
theorem dX9_append_37 : decode cX9_append 37 = .ok (.ifCond .le 5, 3) := by decide +kernel
theorem dX9_append_40 : decode cX9_append 40 = .ok (.iconst 0, 1) := by decide +kernel
theorem dX9_append_41 : decode cX9_append 41 = .ok (.ireturn, 1) := by decide +kernel
theorem dX9_append_42 : decode cX9_append 42 = .ok (.aload_n 0, 1) := by decide +kernel
theorem dX9_append_43 : decode cX9_append 43 = .ok (.getfield 23, 3) := by decide +kernel
theorem dX9_append_46 : decode cX9_append 46 = .ok (.aload_n 0, 1) := by decide +kernel
theorem dX9_append_47 : decode cX9_append 47 = .ok (.getfield 122, 3) := by decide +kernel
theorem dX9_append_50 : decode cX9_append 50 = .ok (.iload_n 1, 1) := by decide +kernel
theorem dX9_append_51 : decode cX9_append 51 = .ok (.iastore, 1) := by decide +kernel
theorem dX9_append_52 : decode cX9_append 52 = .ok (.aload_n 0, 1) := by decide +kernel
theorem dX9_append_53 : decode cX9_append 53 = .ok (.dup, 1) := by decide +kernel
theorem dX9_append_54 : decode cX9_append 54 = .ok (.getfield 122, 3) := by decide +kernel
theorem dX9_append_57 : decode cX9_append 57 = .ok (.iconst 1, 1) := by decide +kernel
theorem dX9_append_58 : decode cX9_append 58 = .ok (.iadd, 1) := by decide +kernel
theorem dX9_append_59 : decode cX9_append 59 = .ok (.putfield 122, 3) := by decide +kernel
theorem dX9_append_62 : decode cX9_append 62 = .ok (.aload_n 0, 1) := by decide +kernel
theorem dX9_append_63 : decode cX9_append 63 = .ok (.getfield 122, 3) := by decide +kernel
theorem dX9_append_66 : decode cX9_append 66 = .ok (.ireturn, 1) := by decide +kernel
theorem dX9_clearInput_0 : decode cX9_clearInput 0 = .ok (.aload_n 0, 1) := by decide +kernel
theorem dX9_clearInput_1 : decode cX9_clearInput 1 = .ok (.iconst 0, 1) := by decide +kernel
theorem dX9_clearInput_2 : decode cX9_clearInput 2 = .ok (.putfield 81, 3) := by decide +kernel
theorem dX9_clearInput_5 : decode cX9_clearInput 5 = .ok (.aload_n 0, 1) := by decide +kernel
theorem dX9_clearInput_6 : decode cX9_clearInput 6 = .ok (.getfield 122, 3) := by decide +kernel
theorem dX9_clearInput_9 : decode cX9_clearInput 9 = .ok (.istore_n 1, 1) := by decide +kernel
theorem dX9_clearInput_10 : decode cX9_clearInput 10 = .ok (.aload_n 0, 1) := by decide +kernel
theorem dX9_clearInput_11 : decode cX9_clearInput 11 = .ok (.iconst 0, 1) := by decide +kernel
theorem dX9_clearInput_12 : decode cX9_clearInput 12 = .ok (.putfield 122, 3) := by decide +kernel
theorem dX9_clearInput_15 : decode cX9_clearInput 15 = .ok (.iload_n 1, 1) := by decide +kernel
theorem dX9_clearInput_16 : decode cX9_clearInput 16 = .ok (.ireturn, 1) := by decide +kernel
theorem dX9_isNew_0 : decode cX9_isNew 0 = .ok (.iconst 1, 1) := by decide +kernel
theorem dX9_isNew_1 : decode cX9_isNew 1 = .ok (.istore_n 1, 1) := by decide +kernel
theorem dX9_isNew_2 : decode cX9_isNew 2 = .ok (.iconst 0, 1) := by decide +kernel
theorem dX9_isNew_3 : decode cX9_isNew 3 = .ok (.istore_n 2, 1) := by decide +kernel
theorem dX9_isNew_4 : decode cX9_isNew 4 = .ok (.iload_n 2, 1) := by decide +kernel
theorem dX9_isNew_5 : decode cX9_isNew 5 = .ok (.aload_n 0, 1) := by decide +kernel
theorem dX9_isNew_6 : decode cX9_isNew 6 = .ok (.getfield 125, 3) := by decide +kernel
theorem dX9_isNew_9 : decode cX9_isNew 9 = .ok (.if_icmp .ge 55, 3) := by decide +kernel
theorem dX9_isNew_12 : decode cX9_isNew 12 = .ok (.iload_n 1, 1) := by decide +kernel
theorem dX9_isNew_13 : decode cX9_isNew 13 = .ok (.ifCond .eq 43, 3) := by decide +kernel
theorem dX9_isNew_16 : decode cX9_isNew 16 = .ok (.aload_n 0, 1) := by decide +kernel
theorem dX9_isNew_17 : decode cX9_isNew 17 = .ok (.getfield 45, 3) := by decide +kernel
theorem dX9_isNew_20 : decode cX9_isNew 20 = .ok (.iload_n 2, 1) := by decide +kernel
theorem dX9_isNew_21 : decode cX9_isNew 21 = .ok (.iaload, 1) := by decide +kernel
theorem dX9_isNew_22 : decode cX9_isNew 22 = .ok (.aload_n 0, 1) := by decide +kernel
theorem dX9_isNew_23 : decode cX9_isNew 23 = .ok (.getfield 45, 3) := by decide +kernel
theorem dX9_isNew_26 : decode cX9_isNew 26 = .ok (.aload_n 0, 1) := by decide +kernel
theorem dX9_isNew_27 : decode cX9_isNew 27 = .ok (.getfield 125, 3) := by decide +kernel
theorem dX9_isNew_30 : decode cX9_isNew 30 = .ok (.iaload, 1) := by decide +kernel
theorem dX9_isNew_31 : decode cX9_isNew 31 = .ok (.if_icmp .ne 21, 3) := by decide +kernel
theorem dX9_isNew_34 : decode cX9_isNew 34 = .ok (.aload_n 0, 1) := by decide +kernel
theorem dX9_isNew_35 : decode cX9_isNew 35 = .ok (.getfield 48, 3) := by decide +kernel
theorem dX9_isNew_38 : decode cX9_isNew 38 = .ok (.iload_n 2, 1) := by decide +kernel
theorem dX9_isNew_39 : decode cX9_isNew 39 = .ok (.iaload, 1) := by decide +kernel
theorem dX9_isNew_40 : decode cX9_isNew 40 = .ok (.aload_n 0, 1) := by decide +kernel
theorem dX9_isNew_41 : decode cX9_isNew 41 = .ok (.getfield 48, 3) := by decide +kernel
theorem dX9_isNew_44 : decode cX9_isNew 44 = .ok (.aload_n 0, 1) := by decide +kernel
theorem dX9_isNew_45 : decode cX9_isNew 45 = .ok (.getfield 125, 3) := by decide +kernel
theorem dX9_isNew_48 : decode cX9_isNew 48 = .ok (.iaload, 1) := by decide +kernel
theorem dX9_isNew_49 : decode cX9_isNew 49 = .ok (.if_icmp .eq 7, 3) := by decide +kernel
theorem dX9_isNew_52 : decode cX9_isNew 52 = .ok (.iconst 1, 1) := by decide +kernel
theorem dX9_isNew_53 : decode cX9_isNew 53 = .ok (.goto 4, 3) := by decide +kernel
theorem dX9_isNew_56 : decode cX9_isNew 56 = .ok (.iconst 0, 1) := by decide +kernel
theorem dX9_isNew_57 : decode cX9_isNew 57 = .ok (.istore_n 1, 1) := by decide +kernel
theorem dX9_isNew_58 : decode cX9_isNew 58 = .ok (.iinc 2 1, 3) := by decide +kernel
theorem dX9_isNew_61 : decode cX9_isNew 61 = .ok (.goto (-57), 3) := by decide +kernel
theorem dX9_isNew_64 : decode cX9_isNew 64 = .ok (.iload_n 1, 1) := by decide +kernel
theorem dX9_isNew_65 : decode cX9_isNew 65 = .ok (.ireturn, 1) := by decide +kernel
theorem dX9_takes_0 : decode cX9_takes 0 = .ok (.iload_n 1, 1) := by decide +kernel
theorem dX9_takes_1 : decode cX9_takes 1 = .ok (.bipush 97, 2) := by decide +kernel
theorem dX9_takes_3 : decode cX9_takes 3 = .ok (.isub, 1) := by decide +kernel
theorem dX9_takes_4 : decode cX9_takes 4 = .ok (.istore_n 2, 1) := by decide +kernel
theorem dX9_takes_5 : decode cX9_takes 5 = .ok (.aload_n 0, 1) := by decide +kernel
theorem dX9_takes_6 : decode cX9_takes 6 = .ok (.getfield 128, 3) := by decide +kernel
theorem dX9_takes_9 : decode cX9_takes 9 = .ok (.tableswitch 149 0 3 #[31, 51, 68, 95], 31) := by decide +kernel
theorem dX9_takes_40 : decode cX9_takes 40 = .ok (.aload_n 0, 1) := by decide +kernel
theorem dX9_takes_41 : decode cX9_takes 41 = .ok (.iload_n 2, 1) := by decide +kernel
theorem dX9_takes_42 : decode cX9_takes 42 = .ok (.iconst 1, 1) := by decide +kernel
theorem dX9_takes_43 : decode cX9_takes 43 = .ok (.iadd, 1) := by decide +kernel
theorem dX9_takes_44 : decode cX9_takes 44 = .ok (.putfield 131, 3) := by decide +kernel
theorem dX9_takes_47 : decode cX9_takes 47 = .ok (.aload_n 0, 1) := by decide +kernel
theorem dX9_takes_48 : decode cX9_takes 48 = .ok (.iconst 1, 1) := by decide +kernel
theorem dX9_takes_49 : decode cX9_takes 49 = .ok (.putfield 128, 3) := by decide +kernel
theorem dX9_takes_52 : decode cX9_takes 52 = .ok (.iload_n 2, 1) := by decide +kernel
theorem dX9_takes_53 : decode cX9_takes 53 = .ok (.iconst 1, 1) := by decide +kernel
theorem dX9_takes_54 : decode cX9_takes 54 = .ok (.bipush 11, 2) := by decide +kernel
theorem dX9_takes_56 : decode cX9_takes 56 = .ok (.invokestatic 97, 3) := by decide +kernel
theorem dX9_takes_59 : decode cX9_takes 59 = .ok (.ireturn, 1) := by decide +kernel
theorem dX9_takes_60 : decode cX9_takes 60 = .ok (.aload_n 0, 1) := by decide +kernel
theorem dX9_takes_61 : decode cX9_takes 61 = .ok (.iconst 2, 1) := by decide +kernel
theorem dX9_takes_62 : decode cX9_takes 62 = .ok (.putfield 128, 3) := by decide +kernel
theorem dX9_takes_65 : decode cX9_takes 65 = .ok (.iload_n 1, 1) := by decide +kernel
theorem dX9_takes_66 : decode cX9_takes 66 = .ok (.bipush 58, 2) := by decide +kernel
theorem dX9_takes_68 : decode cX9_takes 68 = .ok (.if_icmp .ne 7, 3) := by decide +kernel
theorem dX9_takes_71 : decode cX9_takes 71 = .ok (.iconst 1, 1) := by decide +kernel
theorem dX9_takes_72 : decode cX9_takes 72 = .ok (.goto 4, 3) := by decide +kernel
theorem dX9_takes_75 : decode cX9_takes 75 = .ok (.iconst 0, 1) := by decide +kernel
theorem dX9_takes_76 : decode cX9_takes 76 = .ok (.ireturn, 1) := by decide +kernel
theorem dX9_takes_77 : decode cX9_takes 77 = .ok (.aload_n 0, 1) := by decide +kernel
theorem dX9_takes_78 : decode cX9_takes 78 = .ok (.getfield 45, 3) := by decide +kernel
theorem dX9_takes_81 : decode cX9_takes 81 = .ok (.aload_n 0, 1) := by decide +kernel
theorem dX9_takes_82 : decode cX9_takes 82 = .ok (.getfield 125, 3) := by decide +kernel
theorem dX9_takes_85 : decode cX9_takes 85 = .ok (.iload_n 2, 1) := by decide +kernel
theorem dX9_takes_86 : decode cX9_takes 86 = .ok (.iastore, 1) := by decide +kernel
theorem dX9_takes_87 : decode cX9_takes 87 = .ok (.aload_n 0, 1) := by decide +kernel
theorem dX9_takes_88 : decode cX9_takes 88 = .ok (.iconst 3, 1) := by decide +kernel
theorem dX9_takes_89 : decode cX9_takes 89 = .ok (.putfield 128, 3) := by decide +kernel
theorem dX9_takes_92 : decode cX9_takes 92 = .ok (.iload_n 2, 1) := by decide +kernel
theorem dX9_takes_93 : decode cX9_takes 93 = .ok (.iconst 0, 1) := by decide +kernel
theorem dX9_takes_94 : decode cX9_takes 94 = .ok (.aload_n 0, 1) := by decide +kernel
theorem dX9_takes_95 : decode cX9_takes 95 = .ok (.getfield 131, 3) := by decide +kernel
theorem dX9_takes_98 : decode cX9_takes 98 = .ok (.iconst 2, 1) := by decide +kernel
theorem dX9_takes_99 : decode cX9_takes 99 = .ok (.isub, 1) := by decide +kernel
theorem dX9_takes_100 : decode cX9_takes 100 = .ok (.invokestatic 97, 3) := by decide +kernel
theorem dX9_takes_103 : decode cX9_takes 103 = .ok (.ireturn, 1) := by decide +kernel
theorem dX9_takes_104 : decode cX9_takes 104 = .ok (.aload_n 0, 1) := by decide +kernel
theorem dX9_takes_105 : decode cX9_takes 105 = .ok (.getfield 48, 3) := by decide +kernel
theorem dX9_takes_108 : decode cX9_takes 108 = .ok (.aload_n 0, 1) := by decide +kernel
theorem dX9_takes_109 : decode cX9_takes 109 = .ok (.getfield 125, 3) := by decide +kernel
theorem dX9_takes_112 : decode cX9_takes 112 = .ok (.iload_n 2, 1) := by decide +kernel
theorem dX9_takes_113 : decode cX9_takes 113 = .ok (.iastore, 1) := by decide +kernel
theorem dX9_takes_114 : decode cX9_takes 114 = .ok (.aload_n 0, 1) := by decide +kernel
theorem dX9_takes_115 : decode cX9_takes 115 = .ok (.iconst 4, 1) := by decide +kernel
theorem dX9_takes_116 : decode cX9_takes 116 = .ok (.putfield 128, 3) := by decide +kernel
theorem dX9_takes_119 : decode cX9_takes 119 = .ok (.iload_n 2, 1) := by decide +kernel
theorem dX9_takes_120 : decode cX9_takes 120 = .ok (.iconst 1, 1) := by decide +kernel
theorem dX9_takes_121 : decode cX9_takes 121 = .ok (.aload_n 0, 1) := by decide +kernel
theorem dX9_takes_122 : decode cX9_takes 122 = .ok (.getfield 131, 3) := by decide +kernel
theorem dX9_takes_125 : decode cX9_takes 125 = .ok (.iconst 1, 1) := by decide +kernel
theorem dX9_takes_126 : decode cX9_takes 126 = .ok (.isub, 1) := by decide +kernel
theorem dX9_takes_127 : decode cX9_takes 127 = .ok (.invokestatic 97, 3) := by decide +kernel
theorem dX9_takes_130 : decode cX9_takes 130 = .ok (.ifCond .eq 14, 3) := by decide +kernel
theorem dX9_takes_133 : decode cX9_takes 133 = .ok (.aload_n 0, 1) := by decide +kernel
theorem dX9_takes_134 : decode cX9_takes 134 = .ok (.invokevirtual 134, 3) := by decide +kernel
theorem dX9_takes_137 : decode cX9_takes 137 = .ok (.ifCond .eq 7, 3) := by decide +kernel
theorem dX9_takes_140 : decode cX9_takes 140 = .ok (.iconst 1, 1) := by decide +kernel
theorem dX9_takes_141 : decode cX9_takes 141 = .ok (.goto 4, 3) := by decide +kernel
theorem dX9_takes_144 : decode cX9_takes 144 = .ok (.iconst 0, 1) := by decide +kernel
theorem dX9_takes_145 : decode cX9_takes 145 = .ok (.istore_n 3, 1) := by decide +kernel
theorem dX9_takes_146 : decode cX9_takes 146 = .ok (.aload_n 0, 1) := by decide +kernel
theorem dX9_takes_147 : decode cX9_takes 147 = .ok (.dup, 1) := by decide +kernel
theorem dX9_takes_148 : decode cX9_takes 148 = .ok (.getfield 125, 3) := by decide +kernel
theorem dX9_takes_151 : decode cX9_takes 151 = .ok (.iconst 1, 1) := by decide +kernel
theorem dX9_takes_152 : decode cX9_takes 152 = .ok (.iadd, 1) := by decide +kernel
theorem dX9_takes_153 : decode cX9_takes 153 = .ok (.putfield 125, 3) := by decide +kernel
theorem dX9_takes_156 : decode cX9_takes 156 = .ok (.iload_n 3, 1) := by decide +kernel
theorem dX9_takes_157 : decode cX9_takes 157 = .ok (.ireturn, 1) := by decide +kernel
theorem dX9_takes_158 : decode cX9_takes 158 = .ok (.aload_n 0, 1) := by decide +kernel
theorem dX9_takes_159 : decode cX9_takes 159 = .ok (.iconst 2, 1) := by decide +kernel
theorem dX9_takes_160 : decode cX9_takes 160 = .ok (.putfield 128, 3) := by decide +kernel
theorem dX9_takes_163 : decode cX9_takes 163 = .ok (.iload_n 1, 1) := by decide +kernel
theorem dX9_takes_164 : decode cX9_takes 164 = .ok (.bipush 44, 2) := by decide +kernel
theorem dX9_takes_166 : decode cX9_takes 166 = .ok (.if_icmp .ne 16, 3) := by decide +kernel
theorem dX9_takes_169 : decode cX9_takes 169 = .ok (.aload_n 0, 1) := by decide +kernel
theorem dX9_takes_170 : decode cX9_takes 170 = .ok (.getfield 125, 3) := by decide +kernel
theorem dX9_takes_173 : decode cX9_takes 173 = .ok (.bipush 24, 2) := by decide +kernel
theorem dX9_takes_175 : decode cX9_takes 175 = .ok (.if_icmp .ge 7, 3) := by decide +kernel
theorem dX9_takes_178 : decode cX9_takes 178 = .ok (.iconst 1, 1) := by decide +kernel
theorem dX9_takes_179 : decode cX9_takes 179 = .ok (.goto 4, 3) := by decide +kernel
theorem dX9_takes_182 : decode cX9_takes 182 = .ok (.iconst 0, 1) := by decide +kernel
theorem dX9_takes_183 : decode cX9_takes 183 = .ok (.ireturn, 1) := by decide +kernel
theorem dX9_rightLength_0 : decode cX9_rightLength 0 = .ok (.aload_n 0, 1) := by decide +kernel
theorem dX9_rightLength_1 : decode cX9_rightLength 1 = .ok (.iconst 0, 1) := by decide +kernel
theorem dX9_rightLength_2 : decode cX9_rightLength 2 = .ok (.putfield 125, 3) := by decide +kernel
theorem dX9_rightLength_5 : decode cX9_rightLength 5 = .ok (.aload_n 0, 1) := by decide +kernel
theorem dX9_rightLength_6 : decode cX9_rightLength 6 = .ok (.iconst 0, 1) := by decide +kernel
theorem dX9_rightLength_7 : decode cX9_rightLength 7 = .ok (.putfield 128, 3) := by decide +kernel
theorem dX9_rightLength_10 : decode cX9_rightLength 10 = .ok (.iconst 0, 1) := by decide +kernel
theorem dX9_rightLength_11 : decode cX9_rightLength 11 = .ok (.istore_n 1, 1) := by decide +kernel
theorem dX9_rightLength_12 : decode cX9_rightLength 12 = .ok (.iload_n 1, 1) := by decide +kernel
theorem dX9_rightLength_13 : decode cX9_rightLength 13 = .ok (.aload_n 0, 1) := by decide +kernel
theorem dX9_rightLength_14 : decode cX9_rightLength 14 = .ok (.getfield 122, 3) := by decide +kernel
theorem dX9_rightLength_17 : decode cX9_rightLength 17 = .ok (.if_icmp .ge 22, 3) := by decide +kernel
theorem dX9_rightLength_20 : decode cX9_rightLength 20 = .ok (.aload_n 0, 1) := by decide +kernel
theorem dX9_rightLength_21 : decode cX9_rightLength 21 = .ok (.aload_n 0, 1) := by decide +kernel
theorem dX9_rightLength_22 : decode cX9_rightLength 22 = .ok (.getfield 23, 3) := by decide +kernel
theorem dX9_rightLength_25 : decode cX9_rightLength 25 = .ok (.iload_n 1, 1) := by decide +kernel
theorem dX9_rightLength_26 : decode cX9_rightLength 26 = .ok (.iaload, 1) := by decide +kernel
theorem dX9_rightLength_27 : decode cX9_rightLength 27 = .ok (.invokevirtual 138, 3) := by decide +kernel
theorem dX9_rightLength_30 : decode cX9_rightLength 30 = .ok (.ifCond .eq 9, 3) := by decide +kernel
theorem dX9_rightLength_33 : decode cX9_rightLength 33 = .ok (.iinc 1 1, 3) := by decide +kernel
theorem dX9_rightLength_36 : decode cX9_rightLength 36 = .ok (.goto (-24), 3) := by decide +kernel
theorem dX9_rightLength_39 : decode cX9_rightLength 39 = .ok (.iload_n 1, 1) := by decide +kernel
theorem dX9_rightLength_40 : decode cX9_rightLength 40 = .ok (.ireturn, 1) := by decide +kernel
theorem dX9_firstError_0 : decode cX9_firstError 0 = .ok (.aload_n 0, 1) := by decide +kernel
theorem dX9_firstError_1 : decode cX9_firstError 1 = .ok (.iconst 0, 1) := by decide +kernel
theorem dX9_firstError_2 : decode cX9_firstError 2 = .ok (.putfield 81, 3) := by decide +kernel
theorem dX9_firstError_5 : decode cX9_firstError 5 = .ok (.aload_n 0, 1) := by decide +kernel
theorem dX9_firstError_6 : decode cX9_firstError 6 = .ok (.invokevirtual 141, 3) := by decide +kernel
theorem dX9_firstError_9 : decode cX9_firstError 9 = .ok (.ireturn, 1) := by decide +kernel
theorem dX9_load_0 : decode cX9_load 0 = .ok (.aload_n 0, 1) := by decide +kernel
theorem dX9_load_1 : decode cX9_load 1 = .ok (.aload_n 0, 1) := by decide +kernel
theorem dX9_load_2 : decode cX9_load 2 = .ok (.invokevirtual 141, 3) := by decide +kernel
theorem dX9_load_5 : decode cX9_load 5 = .ok (.aload_n 0, 1) := by decide +kernel
theorem dX9_load_6 : decode cX9_load 6 = .ok (.getfield 122, 3) := by decide +kernel
theorem dX9_load_9 : decode cX9_load 9 = .ok (.if_icmp .ne 15, 3) := by decide +kernel
theorem dX9_load_12 : decode cX9_load 12 = .ok (.aload_n 0, 1) := by decide +kernel
theorem dX9_load_13 : decode cX9_load 13 = .ok (.getfield 128, 3) := by decide +kernel
theorem dX9_load_16 : decode cX9_load 16 = .ok (.iconst 4, 1) := by decide +kernel
theorem dX9_load_17 : decode cX9_load 17 = .ok (.if_icmp .ne 7, 3) := by decide +kernel
theorem dX9_load_20 : decode cX9_load 20 = .ok (.iconst 0, 1) := by decide +kernel
theorem dX9_load_21 : decode cX9_load 21 = .ok (.goto 4, 3) := by decide +kernel
theorem dX9_load_24 : decode cX9_load 24 = .ok (.iconst 1, 1) := by decide +kernel
theorem dX9_load_25 : decode cX9_load 25 = .ok (.putfield 81, 3) := by decide +kernel
theorem dX9_load_28 : decode cX9_load 28 = .ok (.aload_n 0, 1) := by decide +kernel
theorem dX9_load_29 : decode cX9_load 29 = .ok (.getfield 81, 3) := by decide +kernel
theorem dX9_load_32 : decode cX9_load 32 = .ok (.ifCond .le 5, 3) := by decide +kernel
theorem dX9_load_35 : decode cX9_load 35 = .ok (.iconst 0, 1) := by decide +kernel
theorem dX9_load_36 : decode cX9_load 36 = .ok (.ireturn, 1) := by decide +kernel
theorem dX9_load_37 : decode cX9_load 37 = .ok (.aload_n 0, 1) := by decide +kernel
theorem dX9_load_38 : decode cX9_load 38 = .ok (.aload_n 0, 1) := by decide +kernel
theorem dX9_load_39 : decode cX9_load 39 = .ok (.getfield 131, 3) := by decide +kernel
theorem dX9_load_42 : decode cX9_load 42 = .ok (.putfield 7, 3) := by decide +kernel
theorem dX9_load_45 : decode cX9_load 45 = .ok (.aload_n 0, 1) := by decide +kernel
theorem dX9_load_46 : decode cX9_load 46 = .ok (.iconst 0, 1) := by decide +kernel
theorem dX9_load_47 : decode cX9_load 47 = .ok (.putfield 101, 3) := by decide +kernel
theorem dX9_load_50 : decode cX9_load 50 = .ok (.iconst 0, 1) := by decide +kernel
theorem dX9_load_51 : decode cX9_load 51 = .ok (.istore_n 1, 1) := by decide +kernel
theorem dX9_load_52 : decode cX9_load 52 = .ok (.iload_n 1, 1) := by decide +kernel
theorem dX9_load_53 : decode cX9_load 53 = .ok (.aload_n 0, 1) := by decide +kernel
theorem dX9_load_54 : decode cX9_load 54 = .ok (.getfield 125, 3) := by decide +kernel
theorem dX9_load_57 : decode cX9_load 57 = .ok (.if_icmp .ge 25, 3) := by decide +kernel
theorem dX9_load_60 : decode cX9_load 60 = .ok (.aload_n 0, 1) := by decide +kernel
theorem dX9_load_61 : decode cX9_load 61 = .ok (.aload_n 0, 1) := by decide +kernel
theorem dX9_load_62 : decode cX9_load 62 = .ok (.getfield 45, 3) := by decide +kernel
theorem dX9_load_65 : decode cX9_load 65 = .ok (.iload_n 1, 1) := by decide +kernel
theorem dX9_load_66 : decode cX9_load 66 = .ok (.iaload, 1) := by decide +kernel
theorem dX9_load_67 : decode cX9_load 67 = .ok (.aload_n 0, 1) := by decide +kernel
theorem dX9_load_68 : decode cX9_load 68 = .ok (.getfield 48, 3) := by decide +kernel
theorem dX9_load_71 : decode cX9_load 71 = .ok (.iload_n 1, 1) := by decide +kernel
theorem dX9_load_72 : decode cX9_load 72 = .ok (.iaload, 1) := by decide +kernel
theorem dX9_load_73 : decode cX9_load 73 = .ok (.invokevirtual 115, 3) := by decide +kernel
theorem dX9_load_76 : decode cX9_load 76 = .ok (.iinc 1 1, 3) := by decide +kernel
theorem dX9_load_79 : decode cX9_load 79 = .ok (.goto (-27), 3) := by decide +kernel
theorem dX9_load_82 : decode cX9_load 82 = .ok (.aload_n 0, 1) := by decide +kernel
theorem dX9_load_83 : decode cX9_load 83 = .ok (.iconst 0, 1) := by decide +kernel
theorem dX9_load_84 : decode cX9_load 84 = .ok (.putfield 122, 3) := by decide +kernel
theorem dX9_load_87 : decode cX9_load 87 = .ok (.aload_n 0, 1) := by decide +kernel
theorem dX9_load_88 : decode cX9_load 88 = .ok (.invokevirtual 104, 3) := by decide +kernel
theorem dX9_load_91 : decode cX9_load 91 = .ok (.aload_n 0, 1) := by decide +kernel
theorem dX9_load_92 : decode cX9_load 92 = .ok (.getfield 101, 3) := by decide +kernel
theorem dX9_load_95 : decode cX9_load 95 = .ok (.ireturn, 1) := by decide +kernel
theorem dX9_search_0 : decode cX9_search 0 = .ok (.iconst 0, 1) := by decide +kernel
theorem dX9_search_1 : decode cX9_search 1 = .ok (.istore_n 1, 1) := by decide +kernel
theorem dX9_search_2 : decode cX9_search 2 = .ok (.iload_n 1, 1) := by decide +kernel
theorem dX9_search_3 : decode cX9_search 3 = .ok (.bipush 12, 2) := by decide +kernel
theorem dX9_search_5 : decode cX9_search 5 = .ok (.if_icmp .ge 30, 3) := by decide +kernel
theorem dX9_search_8 : decode cX9_search 8 = .ok (.aload_n 0, 1) := by decide +kernel
theorem dX9_search_9 : decode cX9_search 9 = .ok (.getfield 51, 3) := by decide +kernel
theorem dX9_search_12 : decode cX9_search 12 = .ok (.iload_n 1, 1) := by decide +kernel
theorem dX9_search_13 : decode cX9_search 13 = .ok (.iconst 0, 1) := by decide +kernel
theorem dX9_search_14 : decode cX9_search 14 = .ok (.bastore, 1) := by decide +kernel
theorem dX9_search_15 : decode cX9_search 15 = .ok (.aload_n 0, 1) := by decide +kernel
theorem dX9_search_16 : decode cX9_search 16 = .ok (.getfield 54, 3) := by decide +kernel
theorem dX9_search_19 : decode cX9_search 19 = .ok (.iload_n 1, 1) := by decide +kernel
theorem dX9_search_20 : decode cX9_search 20 = .ok (.iconst 0, 1) := by decide +kernel
theorem dX9_search_21 : decode cX9_search 21 = .ok (.bastore, 1) := by decide +kernel
theorem dX9_search_22 : decode cX9_search 22 = .ok (.aload_n 0, 1) := by decide +kernel
theorem dX9_search_23 : decode cX9_search 23 = .ok (.getfield 60, 3) := by decide +kernel
theorem dX9_search_26 : decode cX9_search 26 = .ok (.iload_n 1, 1) := by decide +kernel
theorem dX9_search_27 : decode cX9_search 27 = .ok (.iconst 0, 1) := by decide +kernel
theorem dX9_search_28 : decode cX9_search 28 = .ok (.iastore, 1) := by decide +kernel
theorem dX9_search_29 : decode cX9_search 29 = .ok (.iinc 1 1, 3) := by decide +kernel
theorem dX9_search_32 : decode cX9_search 32 = .ok (.goto (-30), 3) := by decide +kernel
theorem dX9_search_35 : decode cX9_search 35 = .ok (.aload_n 0, 1) := by decide +kernel
theorem dX9_search_36 : decode cX9_search 36 = .ok (.iconst 0, 1) := by decide +kernel
theorem dX9_search_37 : decode cX9_search 37 = .ok (.putfield 145, 3) := by decide +kernel
theorem dX9_search_40 : decode cX9_search 40 = .ok (.aload_n 0, 1) := by decide +kernel
theorem dX9_search_41 : decode cX9_search 41 = .ok (.getfield 57, 3) := by decide +kernel
theorem dX9_search_44 : decode cX9_search 44 = .ok (.iconst 0, 1) := by decide +kernel
theorem dX9_search_45 : decode cX9_search 45 = .ok (.iconst 0, 1) := by decide +kernel
theorem dX9_search_46 : decode cX9_search 46 = .ok (.iastore, 1) := by decide +kernel
theorem dX9_search_47 : decode cX9_search 47 = .ok (.aload_n 0, 1) := by decide +kernel
theorem dX9_search_48 : decode cX9_search 48 = .ok (.getfield 51, 3) := by decide +kernel
theorem dX9_search_51 : decode cX9_search 51 = .ok (.iconst 0, 1) := by decide +kernel
theorem dX9_search_52 : decode cX9_search 52 = .ok (.iconst 1, 1) := by decide +kernel
theorem dX9_search_53 : decode cX9_search 53 = .ok (.bastore, 1) := by decide +kernel
theorem dX9_search_54 : decode cX9_search 54 = .ok (.aload_n 0, 1) := by decide +kernel
theorem dX9_search_55 : decode cX9_search 55 = .ok (.getfield 54, 3) := by decide +kernel
theorem dX9_search_58 : decode cX9_search 58 = .ok (.iconst 0, 1) := by decide +kernel
theorem dX9_search_59 : decode cX9_search 59 = .ok (.iconst 1, 1) := by decide +kernel
theorem dX9_search_60 : decode cX9_search 60 = .ok (.bastore, 1) := by decide +kernel
theorem dX9_search_61 : decode cX9_search 61 = .ok (.iconst 1, 1) := by decide +kernel
theorem dX9_search_62 : decode cX9_search 62 = .ok (.istore_n 1, 1) := by decide +kernel
theorem dX9_search_63 : decode cX9_search 63 = .ok (.iload_n 1, 1) := by decide +kernel
theorem dX9_search_64 : decode cX9_search 64 = .ok (.ifCond .le 166, 3) := by decide +kernel
theorem dX9_search_67 : decode cX9_search 67 = .ok (.aload_n 0, 1) := by decide +kernel
theorem dX9_search_68 : decode cX9_search 68 = .ok (.getfield 57, 3) := by decide +kernel
theorem dX9_search_71 : decode cX9_search 71 = .ok (.iload_n 1, 1) := by decide +kernel
theorem dX9_search_72 : decode cX9_search 72 = .ok (.iconst 1, 1) := by decide +kernel
theorem dX9_search_73 : decode cX9_search 73 = .ok (.isub, 1) := by decide +kernel
theorem dX9_search_74 : decode cX9_search 74 = .ok (.iaload, 1) := by decide +kernel
theorem dX9_search_75 : decode cX9_search 75 = .ok (.istore_n 2, 1) := by decide +kernel
theorem dX9_search_76 : decode cX9_search 76 = .ok (.aload_n 0, 1) := by decide +kernel
theorem dX9_search_77 : decode cX9_search 77 = .ok (.getfield 60, 3) := by decide +kernel
theorem dX9_search_80 : decode cX9_search 80 = .ok (.iload_n 2, 1) := by decide +kernel
theorem dX9_search_81 : decode cX9_search 81 = .ok (.iaload, 1) := by decide +kernel
theorem dX9_search_82 : decode cX9_search 82 = .ok (.istore_n 3, 1) := by decide +kernel
theorem dX9_search_83 : decode cX9_search 83 = .ok (.iload_n 3, 1) := by decide +kernel
theorem dX9_search_84 : decode cX9_search 84 = .ok (.aload_n 0, 1) := by decide +kernel
theorem dX9_search_85 : decode cX9_search 85 = .ok (.getfield 101, 3) := by decide +kernel
theorem dX9_search_88 : decode cX9_search 88 = .ok (.if_icmp .ge 19, 3) := by decide +kernel
theorem dX9_search_91 : decode cX9_search 91 = .ok (.aload_n 0, 1) := by decide +kernel
theorem dX9_search_92 : decode cX9_search 92 = .ok (.getfield 13, 3) := by decide +kernel
theorem dX9_search_95 : decode cX9_search 95 = .ok (.iload_n 3, 1) := by decide +kernel
theorem dX9_search_96 : decode cX9_search 96 = .ok (.iaload, 1) := by decide +kernel
theorem dX9_search_97 : decode cX9_search 97 = .ok (.iload_n 2, 1) := by decide +kernel
theorem dX9_search_98 : decode cX9_search 98 = .ok (.if_icmp .eq 9, 3) := by decide +kernel
theorem dX9_search_101 : decode cX9_search 101 = .ok (.iinc 3 1, 3) := by decide +kernel
theorem dX9_search_104 : decode cX9_search 104 = .ok (.goto (-21), 3) := by decide +kernel
theorem dX9_search_107 : decode cX9_search 107 = .ok (.aload_n 0, 1) := by decide +kernel
theorem dX9_search_108 : decode cX9_search 108 = .ok (.getfield 60, 3) := by decide +kernel
theorem dX9_search_111 : decode cX9_search 111 = .ok (.iload_n 2, 1) := by decide +kernel
theorem dX9_search_112 : decode cX9_search 112 = .ok (.iload_n 3, 1) := by decide +kernel
theorem dX9_search_113 : decode cX9_search 113 = .ok (.iconst 1, 1) := by decide +kernel
theorem dX9_search_114 : decode cX9_search 114 = .ok (.iadd, 1) := by decide +kernel
theorem dX9_search_115 : decode cX9_search 115 = .ok (.iastore, 1) := by decide +kernel
theorem dX9_search_116 : decode cX9_search 116 = .ok (.iload_n 3, 1) := by decide +kernel
theorem dX9_search_117 : decode cX9_search 117 = .ok (.aload_n 0, 1) := by decide +kernel
theorem dX9_search_118 : decode cX9_search 118 = .ok (.getfield 101, 3) := by decide +kernel
theorem dX9_search_121 : decode cX9_search 121 = .ok (.if_icmp .lt 36, 3) := by decide +kernel
theorem dX9_search_124 : decode cX9_search 124 = .ok (.aload_n 0, 1) := by decide +kernel
theorem dX9_search_125 : decode cX9_search 125 = .ok (.getfield 54, 3) := by decide +kernel
theorem dX9_search_128 : decode cX9_search 128 = .ok (.iload_n 2, 1) := by decide +kernel
theorem dX9_search_129 : decode cX9_search 129 = .ok (.iconst 0, 1) := by decide +kernel
theorem dX9_search_130 : decode cX9_search 130 = .ok (.bastore, 1) := by decide +kernel
theorem dX9_search_131 : decode cX9_search 131 = .ok (.aload_n 0, 1) := by decide +kernel
theorem dX9_search_132 : decode cX9_search 132 = .ok (.getfield 63, 3) := by decide +kernel
theorem dX9_search_135 : decode cX9_search 135 = .ok (.aload_n 0, 1) := by decide +kernel
theorem dX9_search_136 : decode cX9_search 136 = .ok (.getfield 145, 3) := by decide +kernel
theorem dX9_search_139 : decode cX9_search 139 = .ok (.iload_n 2, 1) := by decide +kernel
theorem dX9_search_140 : decode cX9_search 140 = .ok (.iastore, 1) := by decide +kernel
theorem dX9_search_141 : decode cX9_search 141 = .ok (.aload_n 0, 1) := by decide +kernel
theorem dX9_search_142 : decode cX9_search 142 = .ok (.dup, 1) := by decide +kernel
theorem dX9_search_143 : decode cX9_search 143 = .ok (.getfield 145, 3) := by decide +kernel
theorem dX9_search_146 : decode cX9_search 146 = .ok (.iconst 1, 1) := by decide +kernel
theorem dX9_search_147 : decode cX9_search 147 = .ok (.iadd, 1) := by decide +kernel
theorem dX9_search_148 : decode cX9_search 148 = .ok (.putfield 145, 3) := by decide +kernel
theorem dX9_search_151 : decode cX9_search 151 = .ok (.iinc 1 (-1), 3) := by decide +kernel
theorem dX9_search_154 : decode cX9_search 154 = .ok (.goto 73, 3) := by decide +kernel
theorem dX9_search_157 : decode cX9_search 157 = .ok (.aload_n 0, 1) := by decide +kernel
theorem dX9_search_158 : decode cX9_search 158 = .ok (.getfield 26, 3) := by decide +kernel
theorem dX9_search_161 : decode cX9_search 161 = .ok (.iload_n 3, 1) := by decide +kernel
theorem dX9_search_162 : decode cX9_search 162 = .ok (.aload_n 0, 1) := by decide +kernel
theorem dX9_search_163 : decode cX9_search 163 = .ok (.getfield 54, 3) := by decide +kernel
theorem dX9_search_166 : decode cX9_search 166 = .ok (.aload_n 0, 1) := by decide +kernel
theorem dX9_search_167 : decode cX9_search 167 = .ok (.getfield 17, 3) := by decide +kernel
theorem dX9_search_170 : decode cX9_search 170 = .ok (.iload_n 3, 1) := by decide +kernel
theorem dX9_search_171 : decode cX9_search 171 = .ok (.iaload, 1) := by decide +kernel
theorem dX9_search_172 : decode cX9_search 172 = .ok (.baload, 1) := by decide +kernel
theorem dX9_search_173 : decode cX9_search 173 = .ok (.bastore, 1) := by decide +kernel
theorem dX9_search_174 : decode cX9_search 174 = .ok (.aload_n 0, 1) := by decide +kernel
theorem dX9_search_175 : decode cX9_search 175 = .ok (.getfield 51, 3) := by decide +kernel
theorem dX9_search_178 : decode cX9_search 178 = .ok (.aload_n 0, 1) := by decide +kernel
theorem dX9_search_179 : decode cX9_search 179 = .ok (.getfield 17, 3) := by decide +kernel
theorem dX9_search_182 : decode cX9_search 182 = .ok (.iload_n 3, 1) := by decide +kernel
theorem dX9_search_183 : decode cX9_search 183 = .ok (.iaload, 1) := by decide +kernel
theorem dX9_search_184 : decode cX9_search 184 = .ok (.baload, 1) := by decide +kernel
theorem dX9_search_185 : decode cX9_search 185 = .ok (.ifCond .ne 42, 3) := by decide +kernel
theorem dX9_search_188 : decode cX9_search 188 = .ok (.aload_n 0, 1) := by decide +kernel
theorem dX9_search_189 : decode cX9_search 189 = .ok (.getfield 51, 3) := by decide +kernel
theorem dX9_search_192 : decode cX9_search 192 = .ok (.aload_n 0, 1) := by decide +kernel
theorem dX9_search_193 : decode cX9_search 193 = .ok (.getfield 17, 3) := by decide +kernel
theorem dX9_search_196 : decode cX9_search 196 = .ok (.iload_n 3, 1) := by decide +kernel
theorem dX9_search_197 : decode cX9_search 197 = .ok (.iaload, 1) := by decide +kernel
theorem dX9_search_198 : decode cX9_search 198 = .ok (.iconst 1, 1) := by decide +kernel
theorem dX9_search_199 : decode cX9_search 199 = .ok (.bastore, 1) := by decide +kernel
theorem dX9_search_200 : decode cX9_search 200 = .ok (.aload_n 0, 1) := by decide +kernel
theorem dX9_search_201 : decode cX9_search 201 = .ok (.getfield 54, 3) := by decide +kernel
theorem dX9_search_204 : decode cX9_search 204 = .ok (.aload_n 0, 1) := by decide +kernel
theorem dX9_search_205 : decode cX9_search 205 = .ok (.getfield 17, 3) := by decide +kernel
