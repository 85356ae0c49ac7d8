theorem dX0_init_0 : decode cX0_init 0 = .ok (.aload_n 0, 1) := by decide +kernel
theorem dX0_init_1 : decode cX0_init 1 = .ok (.invokespecial 3, 3) := by decide +kernel
theorem dX0_init_4 : decode cX0_init 4 = .ok (.aload_n 0, 1) := by decide +kernel
theorem dX0_init_5 : decode cX0_init 5 = .ok (.iconst 2, 1) := by decide +kernel
theorem dX0_init_6 : decode cX0_init 6 = .ok (.putfield 9, 3) := by decide +kernel
theorem dX0_init_9 : decode cX0_init 9 = .ok (.aload_n 0, 1) := by decide +kernel
theorem dX0_init_10 : decode cX0_init 10 = .ok (.iconst 0, 1) := by decide +kernel
theorem dX0_init_11 : decode cX0_init 11 = .ok (.putfield 15, 3) := by decide +kernel
theorem dX0_init_14 : decode cX0_init 14 = .ok (.aload_n 0, 1) := by decide +kernel
theorem dX0_init_15 : decode cX0_init 15 = .ok (.bipush 24, 2) := by decide +kernel
theorem dX0_init_17 : decode cX0_init 17 = .ok (.newarray .int, 2) := by decide +kernel
theorem dX0_init_19 : decode cX0_init 19 = .ok (.putfield 18, 3) := by decide +kernel
theorem dX0_init_22 : decode cX0_init 22 = .ok (.aload_n 0, 1) := by decide +kernel
theorem dX0_init_23 : decode cX0_init 23 = .ok (.bipush 24, 2) := by decide +kernel
theorem dX0_init_25 : decode cX0_init 25 = .ok (.newarray .int, 2) := by decide +kernel
theorem dX0_init_27 : decode cX0_init 27 = .ok (.putfield 22, 3) := by decide +kernel
theorem dX0_init_30 : decode cX0_init 30 = .ok (.aload_n 0, 1) := by decide +kernel
theorem dX0_init_31 : decode cX0_init 31 = .ok (.bipush 24, 2) := by decide +kernel
theorem dX0_init_33 : decode cX0_init 33 = .ok (.newarray .int, 2) := by decide +kernel
theorem dX0_init_35 : decode cX0_init 35 = .ok (.putfield 25, 3) := by decide +kernel
theorem dX0_init_38 : decode cX0_init 38 = .ok (.return_, 1) := by decide +kernel
theorem dX0_reset_0 : decode cX0_reset 0 = .ok (.aload_n 0, 1) := by decide +kernel
theorem dX0_reset_1 : decode cX0_reset 1 = .ok (.iload_n 1, 1) := by decide +kernel
theorem dX0_reset_2 : decode cX0_reset 2 = .ok (.putfield 9, 3) := by decide +kernel
theorem dX0_reset_5 : decode cX0_reset 5 = .ok (.aload_n 0, 1) := by decide +kernel
theorem dX0_reset_6 : decode cX0_reset 6 = .ok (.iconst 0, 1) := by decide +kernel
theorem dX0_reset_7 : decode cX0_reset 7 = .ok (.putfield 15, 3) := by decide +kernel
theorem dX0_reset_10 : decode cX0_reset 10 = .ok (.return_, 1) := by decide +kernel
theorem dX0_exit_0 : decode cX0_exit 0 = .ok (.aload_n 0, 1) := by decide +kernel
theorem dX0_exit_1 : decode cX0_exit 1 = .ok (.getfield 9, 3) := by decide +kernel
theorem dX0_exit_4 : decode cX0_exit 4 = .ok (.iconst 1, 1) := by decide +kernel
theorem dX0_exit_5 : decode cX0_exit 5 = .ok (.isub, 1) := by decide +kernel
theorem dX0_exit_6 : decode cX0_exit 6 = .ok (.ireturn, 1) := by decide +kernel
theorem dX0_hasNode_0 : decode cX0_hasNode 0 = .ok (.iload_n 1, 1) := by decide +kernel
theorem dX0_hasNode_1 : decode cX0_hasNode 1 = .ok (.ifCond .lt 15, 3) := by decide +kernel
theorem dX0_hasNode_4 : decode cX0_hasNode 4 = .ok (.iload_n 1, 1) := by decide +kernel
theorem dX0_hasNode_5 : decode cX0_hasNode 5 = .ok (.aload_n 0, 1) := by decide +kernel
theorem dX0_hasNode_6 : decode cX0_hasNode 6 = .ok (.getfield 9, 3) := by decide +kernel
theorem dX0_hasNode_9 : decode cX0_hasNode 9 = .ok (.if_icmp .ge 7, 3) := by decide +kernel
theorem dX0_hasNode_12 : decode cX0_hasNode 12 = .ok (.iconst 1, 1) := by decide +kernel
theorem dX0_hasNode_13 : decode cX0_hasNode 13 = .ok (.goto 4, 3) := by decide +kernel
theorem dX0_hasNode_16 : decode cX0_hasNode 16 = .ok (.iconst 0, 1) := by decide +kernel
theorem dX0_hasNode_17 : decode cX0_hasNode 17 = .ok (.ireturn, 1) := by decide +kernel
theorem dX0_hasEdge_0 : decode cX0_hasEdge 0 = .ok (.iload_n 1, 1) := by decide +kernel
theorem dX0_hasEdge_1 : decode cX0_hasEdge 1 = .ok (.ifCond .lt 15, 3) := by decide +kernel
theorem dX0_hasEdge_4 : decode cX0_hasEdge 4 = .ok (.iload_n 1, 1) := by decide +kernel
theorem dX0_hasEdge_5 : decode cX0_hasEdge 5 = .ok (.aload_n 0, 1) := by decide +kernel
theorem dX0_hasEdge_6 : decode cX0_hasEdge 6 = .ok (.getfield 15, 3) := by decide +kernel
theorem dX0_hasEdge_9 : decode cX0_hasEdge 9 = .ok (.if_icmp .ge 7, 3) := by decide +kernel
theorem dX0_hasEdge_12 : decode cX0_hasEdge 12 = .ok (.iconst 1, 1) := by decide +kernel
theorem dX0_hasEdge_13 : decode cX0_hasEdge 13 = .ok (.goto 4, 3) := by decide +kernel
theorem dX0_hasEdge_16 : decode cX0_hasEdge 16 = .ok (.iconst 0, 1) := by decide +kernel
theorem dX0_hasEdge_17 : decode cX0_hasEdge 17 = .ok (.ireturn, 1) := by decide +kernel
theorem dX0_isFull_0 : decode cX0_isFull 0 = .ok (.aload_n 0, 1) := by decide +kernel
theorem dX0_isFull_1 : decode cX0_isFull 1 = .ok (.getfield 15, 3) := by decide +kernel
theorem dX0_isFull_4 : decode cX0_isFull 4 = .ok (.bipush 24, 2) := by decide +kernel
theorem dX0_isFull_6 : decode cX0_isFull 6 = .ok (.if_icmp .lt 7, 3) := by decide +kernel
theorem dX0_isFull_9 : decode cX0_isFull 9 = .ok (.iconst 1, 1) := by decide +kernel
theorem dX0_isFull_10 : decode cX0_isFull 10 = .ok (.goto 4, 3) := by decide +kernel
theorem dX0_isFull_13 : decode cX0_isFull 13 = .ok (.iconst 0, 1) := by decide +kernel
theorem dX0_isFull_14 : decode cX0_isFull 14 = .ok (.ireturn, 1) := by decide +kernel
theorem dX0_allows_0 : decode cX0_allows 0 = .ok (.aload_n 0, 1) := by decide +kernel
theorem dX0_allows_1 : decode cX0_allows 1 = .ok (.iload_n 1, 1) := by decide +kernel
theorem dX0_allows_2 : decode cX0_allows 2 = .ok (.invokevirtual 28, 3) := by decide +kernel
theorem dX0_allows_5 : decode cX0_allows 5 = .ok (.ifCond .eq 36, 3) := by decide +kernel
theorem dX0_allows_8 : decode cX0_allows 8 = .ok (.aload_n 0, 1) := by decide +kernel
theorem dX0_allows_9 : decode cX0_allows 9 = .ok (.iload_n 2, 1) := by decide +kernel
theorem dX0_allows_10 : decode cX0_allows 10 = .ok (.invokevirtual 28, 3) := by decide +kernel
theorem dX0_allows_13 : decode cX0_allows 13 = .ok (.ifCond .eq 28, 3) := by decide +kernel
theorem dX0_allows_16 : decode cX0_allows 16 = .ok (.iload_n 1, 1) := by decide +kernel
theorem dX0_allows_17 : decode cX0_allows 17 = .ok (.aload_n 0, 1) := by decide +kernel
theorem dX0_allows_18 : decode cX0_allows 18 = .ok (.invokevirtual 32, 3) := by decide +kernel
theorem dX0_allows_21 : decode cX0_allows 21 = .ok (.if_icmp .eq 20, 3) := by decide +kernel
theorem dX0_allows_24 : decode cX0_allows 24 = .ok (.iload_n 2, 1) := by decide +kernel
theorem dX0_allows_25 : decode cX0_allows 25 = .ok (.ifCond .eq 16, 3) := by decide +kernel
theorem dX0_allows_28 : decode cX0_allows 28 = .ok (.aload_n 0, 1) := by decide +kernel
theorem dX0_allows_29 : decode cX0_allows 29 = .ok (.iload_n 1, 1) := by decide +kernel
theorem dX0_allows_30 : decode cX0_allows 30 = .ok (.iload_n 2, 1) := by decide +kernel
theorem dX0_allows_31 : decode cX0_allows 31 = .ok (.invokevirtual 36, 3) := by decide +kernel
theorem dX0_allows_34 : decode cX0_allows 34 = .ok (.ifCond .ne 7, 3) := by decide +kernel
theorem dX0_allows_37 : decode cX0_allows 37 = .ok (.iconst 1, 1) := by decide +kernel
theorem dX0_allows_38 : decode cX0_allows 38 = .ok (.goto 4, 3) := by decide +kernel
theorem dX0_allows_41 : decode cX0_allows 41 = .ok (.iconst 0, 1) := by decide +kernel
theorem dX0_allows_42 : decode cX0_allows 42 = .ok (.ireturn, 1) := by decide +kernel
theorem dX0_joins_0 : decode cX0_joins 0 = .ok (.iconst 0, 1) := by decide +kernel
theorem dX0_joins_1 : decode cX0_joins 1 = .ok (.istore_n 3, 1) := by decide +kernel
theorem dX0_joins_2 : decode cX0_joins 2 = .ok (.iload_n 3, 1) := by decide +kernel
theorem dX0_joins_3 : decode cX0_joins 3 = .ok (.aload_n 0, 1) := by decide +kernel
theorem dX0_joins_4 : decode cX0_joins 4 = .ok (.getfield 15, 3) := by decide +kernel
theorem dX0_joins_7 : decode cX0_joins 7 = .ok (.if_icmp .ge 31, 3) := by decide +kernel
theorem dX0_joins_10 : decode cX0_joins 10 = .ok (.aload_n 0, 1) := by decide +kernel
theorem dX0_joins_11 : decode cX0_joins 11 = .ok (.getfield 18, 3) := by decide +kernel
theorem dX0_joins_14 : decode cX0_joins 14 = .ok (.iload_n 3, 1) := by decide +kernel
theorem dX0_joins_15 : decode cX0_joins 15 = .ok (.iaload, 1) := by decide +kernel
theorem dX0_joins_16 : decode cX0_joins 16 = .ok (.iload_n 1, 1) := by decide +kernel
theorem dX0_joins_17 : decode cX0_joins 17 = .ok (.if_icmp .ne 15, 3) := by decide +kernel
theorem dX0_joins_20 : decode cX0_joins 20 = .ok (.aload_n 0, 1) := by decide +kernel
theorem dX0_joins_21 : decode cX0_joins 21 = .ok (.getfield 22, 3) := by decide +kernel
theorem dX0_joins_24 : decode cX0_joins 24 = .ok (.iload_n 3, 1) := by decide +kernel
theorem dX0_joins_25 : decode cX0_joins 25 = .ok (.iaload, 1) := by decide +kernel
theorem dX0_joins_26 : decode cX0_joins 26 = .ok (.iload_n 2, 1) := by decide +kernel
theorem dX0_joins_27 : decode cX0_joins 27 = .ok (.if_icmp .ne 5, 3) := by decide +kernel
theorem dX0_joins_30 : decode cX0_joins 30 = .ok (.iconst 1, 1) := by decide +kernel
theorem dX0_joins_31 : decode cX0_joins 31 = .ok (.ireturn, 1) := by decide +kernel
theorem dX0_joins_32 : decode cX0_joins 32 = .ok (.iinc 3 1, 3) := by decide +kernel
theorem dX0_joins_35 : decode cX0_joins 35 = .ok (.goto (-33), 3) := by decide +kernel
theorem dX0_joins_38 : decode cX0_joins 38 = .ok (.iconst 0, 1) := by decide +kernel
theorem dX0_joins_39 : decode cX0_joins 39 = .ok (.ireturn, 1) := by decide +kernel
theorem dX0_add_0 : decode cX0_add 0 = .ok (.aload_n 0, 1) := by decide +kernel
theorem dX0_add_1 : decode cX0_add 1 = .ok (.getfield 15, 3) := by decide +kernel
theorem dX0_add_4 : decode cX0_add 4 = .ok (.istore_n 3, 1) := by decide +kernel
theorem dX0_add_5 : decode cX0_add 5 = .ok (.aload_n 0, 1) := by decide +kernel
theorem dX0_add_6 : decode cX0_add 6 = .ok (.getfield 18, 3) := by decide +kernel
theorem dX0_add_9 : decode cX0_add 9 = .ok (.iload_n 3, 1) := by decide +kernel
theorem dX0_add_10 : decode cX0_add 10 = .ok (.iload_n 1, 1) := by decide +kernel
theorem dX0_add_11 : decode cX0_add 11 = .ok (.iastore, 1) := by decide +kernel
theorem dX0_add_12 : decode cX0_add 12 = .ok (.aload_n 0, 1) := by decide +kernel
theorem dX0_add_13 : decode cX0_add 13 = .ok (.getfield 22, 3) := by decide +kernel
theorem dX0_add_16 : decode cX0_add 16 = .ok (.iload_n 3, 1) := by decide +kernel
theorem dX0_add_17 : decode cX0_add 17 = .ok (.iload_n 2, 1) := by decide +kernel
theorem dX0_add_18 : decode cX0_add 18 = .ok (.iastore, 1) := by decide +kernel
theorem dX0_add_19 : decode cX0_add 19 = .ok (.aload_n 0, 1) := by decide +kernel
theorem dX0_add_20 : decode cX0_add 20 = .ok (.getfield 25, 3) := by decide +kernel
theorem dX0_add_23 : decode cX0_add 23 = .ok (.iload_n 3, 1) := by decide +kernel
theorem dX0_add_24 : decode cX0_add 24 = .ok (.iconst 1, 1) := by decide +kernel
theorem dX0_add_25 : decode cX0_add 25 = .ok (.iastore, 1) := by decide +kernel
theorem dX0_add_26 : decode cX0_add 26 = .ok (.aload_n 0, 1) := by decide +kernel
theorem dX0_add_27 : decode cX0_add 27 = .ok (.iload_n 3, 1) := by decide +kernel
theorem dX0_add_28 : decode cX0_add 28 = .ok (.iconst 1, 1) := by decide +kernel
theorem dX0_add_29 : decode cX0_add 29 = .ok (.iadd, 1) := by decide +kernel
theorem dX0_add_30 : decode cX0_add 30 = .ok (.putfield 15, 3) := by decide +kernel
theorem dX0_add_33 : decode cX0_add 33 = .ok (.iload_n 3, 1) := by decide +kernel
theorem dX0_add_34 : decode cX0_add 34 = .ok (.ireturn, 1) := by decide +kernel
theorem dX0_nextOf_0 : decode cX0_nextOf 0 = .ok (.iload_n 2, 1) := by decide +kernel
theorem dX0_nextOf_1 : decode cX0_nextOf 1 = .ok (.istore_n 3, 1) := by decide +kernel
theorem dX0_nextOf_2 : decode cX0_nextOf 2 = .ok (.iload_n 3, 1) := by decide +kernel
theorem dX0_nextOf_3 : decode cX0_nextOf 3 = .ok (.aload_n 0, 1) := by decide +kernel
theorem dX0_nextOf_4 : decode cX0_nextOf 4 = .ok (.getfield 15, 3) := by decide +kernel
theorem dX0_nextOf_7 : decode cX0_nextOf 7 = .ok (.if_icmp .ge 21, 3) := by decide +kernel
theorem dX0_nextOf_10 : decode cX0_nextOf 10 = .ok (.aload_n 0, 1) := by decide +kernel
theorem dX0_nextOf_11 : decode cX0_nextOf 11 = .ok (.getfield 18, 3) := by decide +kernel
theorem dX0_nextOf_14 : decode cX0_nextOf 14 = .ok (.iload_n 3, 1) := by decide +kernel
theorem dX0_nextOf_15 : decode cX0_nextOf 15 = .ok (.iaload, 1) := by decide +kernel
theorem dX0_nextOf_16 : decode cX0_nextOf 16 = .ok (.iload_n 1, 1) := by decide +kernel
theorem dX0_nextOf_17 : decode cX0_nextOf 17 = .ok (.if_icmp .ne 5, 3) := by decide +kernel
theorem dX0_nextOf_20 : decode cX0_nextOf 20 = .ok (.iload_n 3, 1) := by decide +kernel
theorem dX0_nextOf_21 : decode cX0_nextOf 21 = .ok (.ireturn, 1) := by decide +kernel
theorem dX0_nextOf_22 : decode cX0_nextOf 22 = .ok (.iinc 3 1, 3) := by decide +kernel
theorem dX0_nextOf_25 : decode cX0_nextOf 25 = .ok (.goto (-23), 3) := by decide +kernel
theorem dX0_nextOf_28 : decode cX0_nextOf 28 = .ok (.iconst (-1), 1) := by decide +kernel
theorem dX0_nextOf_29 : decode cX0_nextOf 29 = .ok (.ireturn, 1) := by decide +kernel
theorem dX0_edgeAt_0 : decode cX0_edgeAt 0 = .ok (.iconst 0, 1) := by decide +kernel
theorem dX0_edgeAt_1 : decode cX0_edgeAt 1 = .ok (.istore_n 3, 1) := by decide +kernel
theorem dX0_edgeAt_2 : decode cX0_edgeAt 2 = .ok (.iconst 0, 1) := by decide +kernel
theorem dX0_edgeAt_3 : decode cX0_edgeAt 3 = .ok (.istore 4, 2) := by decide +kernel
theorem dX0_edgeAt_5 : decode cX0_edgeAt 5 = .ok (.iload 4, 2) := by decide +kernel
theorem dX0_edgeAt_7 : decode cX0_edgeAt 7 = .ok (.aload_n 0, 1) := by decide +kernel
theorem dX0_edgeAt_8 : decode cX0_edgeAt 8 = .ok (.getfield 15, 3) := by decide +kernel
theorem dX0_edgeAt_11 : decode cX0_edgeAt 11 = .ok (.if_icmp .ge 31, 3) := by decide +kernel
theorem dX0_edgeAt_14 : decode cX0_edgeAt 14 = .ok (.aload_n 0, 1) := by decide +kernel
theorem dX0_edgeAt_15 : decode cX0_edgeAt 15 = .ok (.getfield 18, 3) := by decide +kernel
theorem dX0_edgeAt_18 : decode cX0_edgeAt 18 = .ok (.iload 4, 2) := by decide +kernel
theorem dX0_edgeAt_20 : decode cX0_edgeAt 20 = .ok (.iaload, 1) := by decide +kernel
theorem dX0_edgeAt_21 : decode cX0_edgeAt 21 = .ok (.iload_n 1, 1) := by decide +kernel
theorem dX0_edgeAt_22 : decode cX0_edgeAt 22 = .ok (.if_icmp .ne 14, 3) := by decide +kernel
theorem dX0_edgeAt_25 : decode cX0_edgeAt 25 = .ok (.iload_n 3, 1) := by decide +kernel
theorem dX0_edgeAt_26 : decode cX0_edgeAt 26 = .ok (.iload_n 2, 1) := by decide +kernel
theorem dX0_edgeAt_27 : decode cX0_edgeAt 27 = .ok (.if_icmp .ne 6, 3) := by decide +kernel
theorem dX0_edgeAt_30 : decode cX0_edgeAt 30 = .ok (.iload 4, 2) := by decide +kernel
theorem dX0_edgeAt_32 : decode cX0_edgeAt 32 = .ok (.ireturn, 1) := by decide +kernel
theorem dX0_edgeAt_33 : decode cX0_edgeAt 33 = .ok (.iinc 3 1, 3) := by decide +kernel
theorem dX0_edgeAt_36 : decode cX0_edgeAt 36 = .ok (.iinc 4 1, 3) := by decide +kernel
theorem dX0_edgeAt_39 : decode cX0_edgeAt 39 = .ok (.goto (-34), 3) := by decide +kernel
theorem dX0_edgeAt_42 : decode cX0_edgeAt 42 = .ok (.iconst (-1), 1) := by decide +kernel
theorem dX0_edgeAt_43 : decode cX0_edgeAt 43 = .ok (.ireturn, 1) := by decide +kernel
theorem dX0_become_0 : decode cX0_become 0 = .ok (.aload_n 0, 1) := by decide +kernel
theorem dX0_become_1 : decode cX0_become 1 = .ok (.aload_n 1, 1) := by decide +kernel
theorem dX0_become_2 : decode cX0_become 2 = .ok (.getfield 9, 3) := by decide +kernel
theorem dX0_become_5 : decode cX0_become 5 = .ok (.invokevirtual 40, 3) := by decide +kernel
theorem dX0_become_8 : decode cX0_become 8 = .ok (.iconst 0, 1) := by decide +kernel
theorem dX0_become_9 : decode cX0_become 9 = .ok (.istore_n 2, 1) := by decide +kernel
theorem dX0_become_10 : decode cX0_become 10 = .ok (.iload_n 2, 1) := by decide +kernel
theorem dX0_become_11 : decode cX0_become 11 = .ok (.aload_n 1, 1) := by decide +kernel
theorem dX0_become_12 : decode cX0_become 12 = .ok (.getfield 15, 3) := by decide +kernel
theorem dX0_become_15 : decode cX0_become 15 = .ok (.if_icmp .ge 26, 3) := by decide +kernel
theorem dX0_become_18 : decode cX0_become 18 = .ok (.aload_n 0, 1) := by decide +kernel
theorem dX0_become_19 : decode cX0_become 19 = .ok (.aload_n 1, 1) := by decide +kernel
theorem dX0_become_20 : decode cX0_become 20 = .ok (.getfield 18, 3) := by decide +kernel
theorem dX0_become_23 : decode cX0_become 23 = .ok (.iload_n 2, 1) := by decide +kernel
theorem dX0_become_24 : decode cX0_become 24 = .ok (.iaload, 1) := by decide +kernel
theorem dX0_become_25 : decode cX0_become 25 = .ok (.aload_n 1, 1) := by decide +kernel
theorem dX0_become_26 : decode cX0_become 26 = .ok (.getfield 22, 3) := by decide +kernel
theorem dX0_become_29 : decode cX0_become 29 = .ok (.iload_n 2, 1) := by decide +kernel
theorem dX0_become_30 : decode cX0_become 30 = .ok (.iaload, 1) := by decide +kernel
theorem dX0_become_31 : decode cX0_become 31 = .ok (.invokevirtual 44, 3) := by decide +kernel
theorem dX0_become_34 : decode cX0_become 34 = .ok (.pop, 1) := by decide +kernel
theorem dX0_become_35 : decode cX0_become 35 = .ok (.iinc 2 1, 3) := by decide +kernel
theorem dX0_become_38 : decode cX0_become 38 = .ok (.goto (-28), 3) := by decide +kernel
theorem dX0_become_41 : decode cX0_become 41 = .ok (.return_, 1) := by decide +kernel
theorem dX1_init_0 : decode cX1_init 0 = .ok (.aload_n 0, 1) := by decide +kernel
theorem dX1_init_1 : decode cX1_init 1 = .ok (.invokespecial 3, 3) := by decide +kernel
theorem dX1_init_4 : decode cX1_init 4 = .ok (.aload_n 0, 1) := by decide +kernel
theorem dX1_init_5 : decode cX1_init 5 = .ok (.bipush 72, 2) := by decide +kernel
theorem dX1_init_7 : decode cX1_init 7 = .ok (.newarray .int, 2) := by decide +kernel
theorem dX1_init_9 : decode cX1_init 9 = .ok (.putfield 9, 3) := by decide +kernel
theorem dX1_init_12 : decode cX1_init 12 = .ok (.aload_n 0, 1) := by decide +kernel
theorem dX1_init_13 : decode cX1_init 13 = .ok (.bipush 72, 2) := by decide +kernel
theorem dX1_init_15 : decode cX1_init 15 = .ok (.newarray .int, 2) := by decide +kernel
theorem dX1_init_17 : decode cX1_init 17 = .ok (.putfield 15, 3) := by decide +kernel
theorem dX1_init_20 : decode cX1_init 20 = .ok (.aload_n 0, 1) := by decide +kernel
theorem dX1_init_21 : decode cX1_init 21 = .ok (.bipush 72, 2) := by decide +kernel
theorem dX1_init_23 : decode cX1_init 23 = .ok (.newarray .int, 2) := by decide +kernel
theorem dX1_init_25 : decode cX1_init 25 = .ok (.putfield 18, 3) := by decide +kernel
theorem dX1_init_28 : decode cX1_init 28 = .ok (.aload_n 0, 1) := by decide +kernel
theorem dX1_init_29 : decode cX1_init 29 = .ok (.bipush 12, 2) := by decide +kernel
theorem dX1_init_31 : decode cX1_init 31 = .ok (.newarray .int, 2) := by decide +kernel
theorem dX1_init_33 : decode cX1_init 33 = .ok (.putfield 21, 3) := by decide +kernel
theorem dX1_init_36 : decode cX1_init 36 = .ok (.aload_n 0, 1) := by decide +kernel
theorem dX1_init_37 : decode cX1_init 37 = .ok (.aload_n 1, 1) := by decide +kernel
theorem dX1_init_38 : decode cX1_init 38 = .ok (.putfield 24, 3) := by decide +kernel
theorem dX1_init_41 : decode cX1_init 41 = .ok (.aload_n 0, 1) := by decide +kernel
theorem dX1_init_42 : decode cX1_init 42 = .ok (.aload_n 2, 1) := by decide +kernel
theorem dX1_init_43 : decode cX1_init 43 = .ok (.putfield 28, 3) := by decide +kernel
theorem dX1_init_46 : decode cX1_init 46 = .ok (.return_, 1) := by decide +kernel
theorem dX1_build_0 : decode cX1_build 0 = .ok (.iconst 0, 1) := by decide +kernel
theorem dX1_build_1 : decode cX1_build 1 = .ok (.istore_n 1, 1) := by decide +kernel
theorem dX1_build_2 : decode cX1_build 2 = .ok (.iload_n 1, 1) := by decide +kernel
theorem dX1_build_3 : decode cX1_build 3 = .ok (.bipush 72, 2) := by decide +kernel
theorem dX1_build_5 : decode cX1_build 5 = .ok (.if_icmp .ge 16, 3) := by decide +kernel
theorem dX1_build_8 : decode cX1_build 8 = .ok (.aload_n 0, 1) := by decide +kernel
theorem dX1_build_9 : decode cX1_build 9 = .ok (.iload_n 1, 1) := by decide +kernel
theorem dX1_build_10 : decode cX1_build 10 = .ok (.iconst (-1), 1) := by decide +kernel
theorem dX1_build_11 : decode cX1_build 11 = .ok (.iconst (-1), 1) := by decide +kernel
theorem dX1_build_12 : decode cX1_build 12 = .ok (.invokevirtual 32, 3) := by decide +kernel
theorem dX1_build_15 : decode cX1_build 15 = .ok (.iinc 1 1, 3) := by decide +kernel
theorem dX1_build_18 : decode cX1_build 18 = .ok (.goto (-16), 3) := by decide +kernel
theorem dX1_build_21 : decode cX1_build 21 = .ok (.iconst 0, 1) := by decide +kernel
theorem dX1_build_22 : decode cX1_build 22 = .ok (.istore_n 1, 1) := by decide +kernel
theorem dX1_build_23 : decode cX1_build 23 = .ok (.iload_n 1, 1) := by decide +kernel
theorem dX1_build_24 : decode cX1_build 24 = .ok (.aload_n 0, 1) := by decide +kernel
theorem dX1_build_25 : decode cX1_build 25 = .ok (.getfield 24, 3) := by decide +kernel
theorem dX1_build_28 : decode cX1_build 28 = .ok (.getfield 36, 3) := by decide +kernel
theorem dX1_build_31 : decode cX1_build 31 = .ok (.if_icmp .ge 91, 3) := by decide +kernel
theorem dX1_build_34 : decode cX1_build 34 = .ok (.aload_n 0, 1) := by decide +kernel
theorem dX1_build_35 : decode cX1_build 35 = .ok (.getfield 28, 3) := by decide +kernel
theorem dX1_build_38 : decode cX1_build 38 = .ok (.getfield 42, 3) := by decide +kernel
theorem dX1_build_41 : decode cX1_build 41 = .ok (.iload_n 1, 1) := by decide +kernel
theorem dX1_build_42 : decode cX1_build 42 = .ok (.baload, 1) := by decide +kernel
theorem dX1_build_43 : decode cX1_build 43 = .ok (.ifCond .eq 48, 3) := by decide +kernel
theorem dX1_build_46 : decode cX1_build 46 = .ok (.aload_n 0, 1) := by decide +kernel
theorem dX1_build_47 : decode cX1_build 47 = .ok (.bipush 24, 2) := by decide +kernel
theorem dX1_build_49 : decode cX1_build 49 = .ok (.iload_n 1, 1) := by decide +kernel
theorem dX1_build_50 : decode cX1_build 50 = .ok (.iadd, 1) := by decide +kernel
theorem dX1_build_51 : decode cX1_build 51 = .ok (.aload_n 0, 1) := by decide +kernel
theorem dX1_build_52 : decode cX1_build 52 = .ok (.getfield 24, 3) := by decide +kernel
theorem dX1_build_55 : decode cX1_build 55 = .ok (.getfield 48, 3) := by decide +kernel
theorem dX1_build_58 : decode cX1_build 58 = .ok (.iload_n 1, 1) := by decide +kernel
theorem dX1_build_59 : decode cX1_build 59 = .ok (.iaload, 1) := by decide +kernel
theorem dX1_build_60 : decode cX1_build 60 = .ok (.aload_n 0, 1) := by decide +kernel
theorem dX1_build_61 : decode cX1_build 61 = .ok (.getfield 24, 3) := by decide +kernel
theorem dX1_build_64 : decode cX1_build 64 = .ok (.invokevirtual 49, 3) := by decide +kernel
theorem dX1_build_67 : decode cX1_build 67 = .ok (.invokevirtual 32, 3) := by decide +kernel
theorem dX1_build_70 : decode cX1_build 70 = .ok (.aload_n 0, 1) := by decide +kernel
theorem dX1_build_71 : decode cX1_build 71 = .ok (.bipush 48, 2) := by decide +kernel
theorem dX1_build_73 : decode cX1_build 73 = .ok (.iload_n 1, 1) := by decide +kernel
theorem dX1_build_74 : decode cX1_build 74 = .ok (.iadd, 1) := by decide +kernel
theorem dX1_build_75 : decode cX1_build 75 = .ok (.iconst 0, 1) := by decide +kernel
theorem dX1_build_76 : decode cX1_build 76 = .ok (.aload_n 0, 1) := by decide +kernel
theorem dX1_build_77 : decode cX1_build 77 = .ok (.getfield 24, 3) := by decide +kernel
theorem dX1_build_80 : decode cX1_build 80 = .ok (.getfield 53, 3) := by decide +kernel
theorem dX1_build_83 : decode cX1_build 83 = .ok (.iload_n 1, 1) := by decide +kernel
theorem dX1_build_84 : decode cX1_build 84 = .ok (.iaload, 1) := by decide +kernel
theorem dX1_build_85 : decode cX1_build 85 = .ok (.invokevirtual 32, 3) := by decide +kernel
theorem dX1_build_88 : decode cX1_build 88 = .ok (.goto 28, 3) := by decide +kernel
theorem dX1_build_91 : decode cX1_build 91 = .ok (.aload_n 0, 1) := by decide +kernel
theorem dX1_build_92 : decode cX1_build 92 = .ok (.iconst 0, 1) := by decide +kernel
theorem dX1_build_93 : decode cX1_build 93 = .ok (.iload_n 1, 1) := by decide +kernel
theorem dX1_build_94 : decode cX1_build 94 = .ok (.iadd, 1) := by decide +kernel
theorem dX1_build_95 : decode cX1_build 95 = .ok (.aload_n 0, 1) := by decide +kernel
theorem dX1_build_96 : decode cX1_build 96 = .ok (.getfield 24, 3) := by decide +kernel
theorem dX1_build_99 : decode cX1_build 99 = .ok (.getfield 48, 3) := by decide +kernel
theorem dX1_build_102 : decode cX1_build 102 = .ok (.iload_n 1, 1) := by decide +kernel
theorem dX1_build_103 : decode cX1_build 103 = .ok (.iaload, 1) := by decide +kernel
theorem dX1_build_104 : decode cX1_build 104 = .ok (.aload_n 0, 1) := by decide +kernel
theorem dX1_build_105 : decode cX1_build 105 = .ok (.getfield 24, 3) := by decide +kernel
theorem dX1_build_108 : decode cX1_build 108 = .ok (.getfield 53, 3) := by decide +kernel
theorem dX1_build_111 : decode cX1_build 111 = .ok (.iload_n 1, 1) := by decide +kernel
theorem dX1_build_112 : decode cX1_build 112 = .ok (.iaload, 1) := by decide +kernel
theorem dX1_build_113 : decode cX1_build 113 = .ok (.invokevirtual 32, 3) := by decide +kernel
theorem dX1_build_116 : decode cX1_build 116 = .ok (.iinc 1 1, 3) := by decide +kernel
theorem dX1_build_119 : decode cX1_build 119 = .ok (.goto (-96), 3) := by decide +kernel
theorem dX1_build_122 : decode cX1_build 122 = .ok (.aload_n 0, 1) := by decide +kernel
theorem dX1_build_123 : decode cX1_build 123 = .ok (.invokevirtual 54, 3) := by decide +kernel
theorem dX1_build_126 : decode cX1_build 126 = .ok (.return_, 1) := by decide +kernel
theorem dX1_put_0 : decode cX1_put 0 = .ok (.aload_n 0, 1) := by decide +kernel
theorem dX1_put_1 : decode cX1_put 1 = .ok (.getfield 9, 3) := by decide +kernel
theorem dX1_put_4 : decode cX1_put 4 = .ok (.iload_n 1, 1) := by decide +kernel
theorem dX1_put_5 : decode cX1_put 5 = .ok (.iload_n 2, 1) := by decide +kernel
theorem dX1_put_6 : decode cX1_put 6 = .ok (.iastore, 1) := by decide +kernel
theorem dX1_put_7 : decode cX1_put 7 = .ok (.aload_n 0, 1) := by decide +kernel
theorem dX1_put_8 : decode cX1_put 8 = .ok (.getfield 15, 3) := by decide +kernel
theorem dX1_put_11 : decode cX1_put 11 = .ok (.iload_n 1, 1) := by decide +kernel
theorem dX1_put_12 : decode cX1_put 12 = .ok (.iload_n 3, 1) := by decide +kernel
theorem dX1_put_13 : decode cX1_put 13 = .ok (.iastore, 1) := by decide +kernel
theorem dX1_put_14 : decode cX1_put 14 = .ok (.aload_n 0, 1) := by decide +kernel
theorem dX1_put_15 : decode cX1_put 15 = .ok (.getfield 18, 3) := by decide +kernel
theorem dX1_put_18 : decode cX1_put 18 = .ok (.iload_n 1, 1) := by decide +kernel
theorem dX1_put_19 : decode cX1_put 19 = .ok (.iconst 0, 1) := by decide +kernel
theorem dX1_put_20 : decode cX1_put 20 = .ok (.iastore, 1) := by decide +kernel
theorem dX1_put_21 : decode cX1_put 21 = .ok (.return_, 1) := by decide +kernel
theorem dX1_countPaths_0 : decode cX1_countPaths 0 = .ok (.aload_n 0, 1) := by decide +kernel
theorem dX1_countPaths_1 : decode cX1_countPaths 1 = .ok (.getfield 21, 3) := by decide +kernel
theorem dX1_countPaths_4 : decode cX1_countPaths 4 = .ok (.aload_n 0, 1) := by decide +kernel
theorem dX1_countPaths_5 : decode cX1_countPaths 5 = .ok (.getfield 24, 3) := by decide +kernel
theorem dX1_countPaths_8 : decode cX1_countPaths 8 = .ok (.invokevirtual 49, 3) := by decide +kernel
theorem dX1_countPaths_11 : decode cX1_countPaths 11 = .ok (.iconst 1, 1) := by decide +kernel
theorem dX1_countPaths_12 : decode cX1_countPaths 12 = .ok (.iastore, 1) := by decide +kernel
theorem dX1_countPaths_13 : decode cX1_countPaths 13 = .ok (.iconst 0, 1) := by decide +kernel
theorem dX1_countPaths_14 : decode cX1_countPaths 14 = .ok (.istore_n 1, 1) := by decide +kernel
theorem dX1_countPaths_15 : decode cX1_countPaths 15 = .ok (.iload_n 1, 1) := by decide +kernel
theorem dX1_countPaths_16 : decode cX1_countPaths 16 = .ok (.aload_n 0, 1) := by decide +kernel
theorem dX1_countPaths_17 : decode cX1_countPaths 17 = .ok (.getfield 28, 3) := by decide +kernel
theorem dX1_countPaths_20 : decode cX1_countPaths 20 = .ok (.getfield 57, 3) := by decide +kernel
theorem dX1_countPaths_23 : decode cX1_countPaths 23 = .ok (.if_icmp .ge 41, 3) := by decide +kernel
theorem dX1_countPaths_26 : decode cX1_countPaths 26 = .ok (.aload_n 0, 1) := by decide +kernel
theorem dX1_countPaths_27 : decode cX1_countPaths 27 = .ok (.getfield 28, 3) := by decide +kernel
theorem dX1_countPaths_30 : decode cX1_countPaths 30 = .ok (.getfield 60, 3) := by decide +kernel
theorem dX1_countPaths_33 : decode cX1_countPaths 33 = .ok (.iload_n 1, 1) := by decide +kernel
theorem dX1_countPaths_34 : decode cX1_countPaths 34 = .ok (.iaload, 1) := by decide +kernel
theorem dX1_countPaths_35 : decode cX1_countPaths 35 = .ok (.aload_n 0, 1) := by decide +kernel
theorem dX1_countPaths_36 : decode cX1_countPaths 36 = .ok (.getfield 24, 3) := by decide +kernel
theorem dX1_countPaths_39 : decode cX1_countPaths 39 = .ok (.invokevirtual 49, 3) := by decide +kernel
theorem dX1_countPaths_42 : decode cX1_countPaths 42 = .ok (.if_icmp .eq 16, 3) := by decide +kernel
theorem dX1_countPaths_45 : decode cX1_countPaths 45 = .ok (.aload_n 0, 1) := by decide +kernel
theorem dX1_countPaths_46 : decode cX1_countPaths 46 = .ok (.aload_n 0, 1) := by decide +kernel
theorem dX1_countPaths_47 : decode cX1_countPaths 47 = .ok (.getfield 28, 3) := by decide +kernel
theorem dX1_countPaths_50 : decode cX1_countPaths 50 = .ok (.getfield 60, 3) := by decide +kernel
theorem dX1_countPaths_53 : decode cX1_countPaths 53 = .ok (.iload_n 1, 1) := by decide +kernel
theorem dX1_countPaths_54 : decode cX1_countPaths 54 = .ok (.iaload, 1) := by decide +kernel
theorem dX1_countPaths_55 : decode cX1_countPaths 55 = .ok (.invokevirtual 63, 3) := by decide +kernel
theorem dX1_countPaths_58 : decode cX1_countPaths 58 = .ok (.iinc 1 1, 3) := by decide +kernel
theorem dX1_countPaths_61 : decode cX1_countPaths 61 = .ok (.goto (-46), 3) := by decide +kernel
theorem dX1_countPaths_64 : decode cX1_countPaths 64 = .ok (.return_, 1) := by decide +kernel
theorem dX1_countPathsOf_0 : decode cX1_countPathsOf 0 = .ok (.iconst 0, 1) := by decide +kernel
theorem dX1_countPathsOf_1 : decode cX1_countPathsOf 1 = .ok (.istore_n 2, 1) := by decide +kernel
theorem dX1_countPathsOf_2 : decode cX1_countPathsOf 2 = .ok (.iconst 0, 1) := by decide +kernel
theorem dX1_countPathsOf_3 : decode cX1_countPathsOf 3 = .ok (.istore_n 3, 1) := by decide +kernel
theorem dX1_countPathsOf_4 : decode cX1_countPathsOf 4 = .ok (.iload_n 3, 1) := by decide +kernel
theorem dX1_countPathsOf_5 : decode cX1_countPathsOf 5 = .ok (.bipush 72, 2) := by decide +kernel
theorem dX1_countPathsOf_7 : decode cX1_countPathsOf 7 = .ok (.if_icmp .ge 40, 3) := by decide +kernel
theorem dX1_countPathsOf_10 : decode cX1_countPathsOf 10 = .ok (.aload_n 0, 1) := by decide +kernel
theorem dX1_countPathsOf_11 : decode cX1_countPathsOf 11 = .ok (.getfield 9, 3) := by decide +kernel
theorem dX1_countPathsOf_14 : decode cX1_countPathsOf 14 = .ok (.iload_n 3, 1) := by decide +kernel
theorem dX1_countPathsOf_15 : decode cX1_countPathsOf 15 = .ok (.iaload, 1) := by decide +kernel
theorem dX1_countPathsOf_16 : decode cX1_countPathsOf 16 = .ok (.iload_n 1, 1) := by decide +kernel
theorem dX1_countPathsOf_17 : decode cX1_countPathsOf 17 = .ok (.if_icmp .ne 24, 3) := by decide +kernel
theorem dX1_countPathsOf_20 : decode cX1_countPathsOf 20 = .ok (.aload_n 0, 1) := by decide +kernel
theorem dX1_countPathsOf_21 : decode cX1_countPathsOf 21 = .ok (.getfield 18, 3) := by decide +kernel
theorem dX1_countPathsOf_24 : decode cX1_countPathsOf 24 = .ok (.iload_n 3, 1) := by decide +kernel
theorem dX1_countPathsOf_25 : decode cX1_countPathsOf 25 = .ok (.iload_n 2, 1) := by decide +kernel
theorem dX1_countPathsOf_26 : decode cX1_countPathsOf 26 = .ok (.iastore, 1) := by decide +kernel
theorem dX1_countPathsOf_27 : decode cX1_countPathsOf 27 = .ok (.iload_n 2, 1) := by decide +kernel
theorem dX1_countPathsOf_28 : decode cX1_countPathsOf 28 = .ok (.aload_n 0, 1) := by decide +kernel
theorem dX1_countPathsOf_29 : decode cX1_countPathsOf 29 = .ok (.getfield 21, 3) := by decide +kernel
theorem dX1_countPathsOf_32 : decode cX1_countPathsOf 32 = .ok (.aload_n 0, 1) := by decide +kernel
theorem dX1_countPathsOf_33 : decode cX1_countPathsOf 33 = .ok (.getfield 15, 3) := by decide +kernel
theorem dX1_countPathsOf_36 : decode cX1_countPathsOf 36 = .ok (.iload_n 3, 1) := by decide +kernel
theorem dX1_countPathsOf_37 : decode cX1_countPathsOf 37 = .ok (.iaload, 1) := by decide +kernel
theorem dX1_countPathsOf_38 : decode cX1_countPathsOf 38 = .ok (.iaload, 1) := by decide +kernel
theorem dX1_countPathsOf_39 : decode cX1_countPathsOf 39 = .ok (.iadd, 1) := by decide +kernel
theorem dX1_countPathsOf_40 : decode cX1_countPathsOf 40 = .ok (.istore_n 2, 1) := by decide +kernel
theorem dX1_countPathsOf_41 : decode cX1_countPathsOf 41 = .ok (.iinc 3 1, 3) := by decide +kernel
theorem dX1_countPathsOf_44 : decode cX1_countPathsOf 44 = .ok (.goto (-40), 3) := by decide +kernel
theorem dX1_countPathsOf_47 : decode cX1_countPathsOf 47 = .ok (.aload_n 0, 1) := by decide +kernel
theorem dX1_countPathsOf_48 : decode cX1_countPathsOf 48 = .ok (.getfield 21, 3) := by decide +kernel
theorem dX1_countPathsOf_51 : decode cX1_countPathsOf 51 = .ok (.iload_n 1, 1) := by decide +kernel
theorem dX1_countPathsOf_52 : decode cX1_countPathsOf 52 = .ok (.iload_n 2, 1) := by decide +kernel
theorem dX1_countPathsOf_53 : decode cX1_countPathsOf 53 = .ok (.iastore, 1) := by decide +kernel
theorem dX1_countPathsOf_54 : decode cX1_countPathsOf 54 = .ok (.return_, 1) := by decide +kernel
theorem dX1_allPaths_0 : decode cX1_allPaths 0 = .ok (.aload_n 0, 1) := by decide +kernel
theorem dX1_allPaths_1 : decode cX1_allPaths 1 = .ok (.getfield 21, 3) := by decide +kernel
theorem dX1_allPaths_4 : decode cX1_allPaths 4 = .ok (.iconst 0, 1) := by decide +kernel
theorem dX1_allPaths_5 : decode cX1_allPaths 5 = .ok (.iaload, 1) := by decide +kernel
theorem dX1_allPaths_6 : decode cX1_allPaths 6 = .ok (.ireturn, 1) := by decide +kernel
theorem dX1_linkOf_0 : decode cX1_linkOf 0 = .ok (.aload_n 0, 1) := by decide +kernel
theorem dX1_linkOf_1 : decode cX1_linkOf 1 = .ok (.getfield 28, 3) := by decide +kernel
theorem dX1_linkOf_4 : decode cX1_linkOf 4 = .ok (.getfield 42, 3) := by decide +kernel
theorem dX1_linkOf_7 : decode cX1_linkOf 7 = .ok (.iload_n 1, 1) := by decide +kernel
theorem dX1_linkOf_8 : decode cX1_linkOf 8 = .ok (.baload, 1) := by decide +kernel
theorem dX1_linkOf_9 : decode cX1_linkOf 9 = .ok (.ifCond .ne 7, 3) := by decide +kernel
theorem dX1_linkOf_12 : decode cX1_linkOf 12 = .ok (.iconst 0, 1) := by decide +kernel
theorem dX1_linkOf_13 : decode cX1_linkOf 13 = .ok (.iload_n 1, 1) := by decide +kernel
theorem dX1_linkOf_14 : decode cX1_linkOf 14 = .ok (.iadd, 1) := by decide +kernel
theorem dX1_linkOf_15 : decode cX1_linkOf 15 = .ok (.ireturn, 1) := by decide +kernel
theorem dX1_linkOf_16 : decode cX1_linkOf 16 = .ok (.iload_n 2, 1) := by decide +kernel
theorem dX1_linkOf_17 : decode cX1_linkOf 17 = .ok (.ifCond .eq 10, 3) := by decide +kernel
theorem dX1_linkOf_20 : decode cX1_linkOf 20 = .ok (.bipush 24, 2) := by decide +kernel
theorem dX1_linkOf_22 : decode cX1_linkOf 22 = .ok (.iload_n 1, 1) := by decide +kernel
theorem dX1_linkOf_23 : decode cX1_linkOf 23 = .ok (.iadd, 1) := by decide +kernel
theorem dX1_linkOf_24 : decode cX1_linkOf 24 = .ok (.goto 7, 3) := by decide +kernel
theorem dX1_linkOf_27 : decode cX1_linkOf 27 = .ok (.bipush 48, 2) := by decide +kernel
theorem dX1_linkOf_29 : decode cX1_linkOf 29 = .ok (.iload_n 1, 1) := by decide +kernel
theorem dX1_linkOf_30 : decode cX1_linkOf 30 = .ok (.iadd, 1) := by decide +kernel
theorem dX1_linkOf_31 : decode cX1_linkOf 31 = .ok (.ireturn, 1) := by decide +kernel
theorem dX1_between_0 : decode cX1_between 0 = .ok (.aload_n 0, 1) := by decide +kernel
theorem dX1_between_1 : decode cX1_between 1 = .ok (.getfield 24, 3) := by decide +kernel
theorem dX1_between_4 : decode cX1_between 4 = .ok (.iload_n 2, 1) := by decide +kernel
theorem dX1_between_5 : decode cX1_between 5 = .ok (.invokevirtual 67, 3) := by decide +kernel
theorem dX1_between_8 : decode cX1_between 8 = .ok (.ifCond .ne 5, 3) := by decide +kernel
theorem dX1_between_11 : decode cX1_between 11 = .ok (.iconst (-1), 1) := by decide +kernel
theorem dX1_between_12 : decode cX1_between 12 = .ok (.ireturn, 1) := by decide +kernel
theorem dX1_between_13 : decode cX1_between 13 = .ok (.iload_n 1, 1) := by decide +kernel
theorem dX1_between_14 : decode cX1_between 14 = .ok (.istore 4, 2) := by decide +kernel
theorem dX1_between_16 : decode cX1_between 16 = .ok (.iload 4, 2) := by decide +kernel
theorem dX1_between_18 : decode cX1_between 18 = .ok (.iload_n 1, 1) := by decide +kernel
theorem dX1_between_19 : decode cX1_between 19 = .ok (.bipush 24, 2) := by decide +kernel
theorem dX1_between_21 : decode cX1_between 21 = .ok (.iadd, 1) := by decide +kernel
theorem dX1_between_22 : decode cX1_between 22 = .ok (.if_icmp .ge 34, 3) := by decide +kernel
theorem dX1_between_25 : decode cX1_between 25 = .ok (.aload_n 0, 1) := by decide +kernel
theorem dX1_between_26 : decode cX1_between 26 = .ok (.getfield 9, 3) := by decide +kernel
theorem dX1_between_29 : decode cX1_between 29 = .ok (.iload 4, 2) := by decide +kernel
theorem dX1_between_31 : decode cX1_between 31 = .ok (.iaload, 1) := by decide +kernel
theorem dX1_between_32 : decode cX1_between 32 = .ok (.iload_n 2, 1) := by decide +kernel
theorem dX1_between_33 : decode cX1_between 33 = .ok (.if_icmp .ne 17, 3) := by decide +kernel
theorem dX1_between_36 : decode cX1_between 36 = .ok (.aload_n 0, 1) := by decide +kernel
theorem dX1_between_37 : decode cX1_between 37 = .ok (.getfield 15, 3) := by decide +kernel
theorem dX1_between_40 : decode cX1_between 40 = .ok (.iload 4, 2) := by decide +kernel
theorem dX1_between_42 : decode cX1_between 42 = .ok (.iaload, 1) := by decide +kernel
theorem dX1_between_43 : decode cX1_between 43 = .ok (.iload_n 3, 1) := by decide +kernel
theorem dX1_between_44 : decode cX1_between 44 = .ok (.if_icmp .ne 6, 3) := by decide +kernel
theorem dX1_between_47 : decode cX1_between 47 = .ok (.iload 4, 2) := by decide +kernel
theorem dX1_between_49 : decode cX1_between 49 = .ok (.ireturn, 1) := by decide +kernel
theorem dX1_between_50 : decode cX1_between 50 = .ok (.iinc 4 1, 3) := by decide +kernel
theorem dX1_between_53 : decode cX1_between 53 = .ok (.goto (-37), 3) := by decide +kernel
theorem dX1_between_56 : decode cX1_between 56 = .ok (.iconst (-1), 1) := by decide +kernel
theorem dX1_between_57 : decode cX1_between 57 = .ok (.ireturn, 1) := by decide +kernel
theorem dX1_onward_0 : decode cX1_onward 0 = .ok (.iconst (-1), 1) := by decide +kernel
theorem dX1_onward_1 : decode cX1_onward 1 = .ok (.istore_n 3, 1) := by decide +kernel
theorem dX1_onward_2 : decode cX1_onward 2 = .ok (.iconst 0, 1) := by decide +kernel
theorem dX1_onward_3 : decode cX1_onward 3 = .ok (.istore 4, 2) := by decide +kernel
theorem dX1_onward_5 : decode cX1_onward 5 = .ok (.iload 4, 2) := by decide +kernel
theorem dX1_onward_7 : decode cX1_onward 7 = .ok (.bipush 72, 2) := by decide +kernel
theorem dX1_onward_9 : decode cX1_onward 9 = .ok (.if_icmp .ge 34, 3) := by decide +kernel
theorem dX1_onward_12 : decode cX1_onward 12 = .ok (.aload_n 0, 1) := by decide +kernel
theorem dX1_onward_13 : decode cX1_onward 13 = .ok (.getfield 9, 3) := by decide +kernel
theorem dX1_onward_16 : decode cX1_onward 16 = .ok (.iload 4, 2) := by decide +kernel
theorem dX1_onward_18 : decode cX1_onward 18 = .ok (.iaload, 1) := by decide +kernel
theorem dX1_onward_19 : decode cX1_onward 19 = .ok (.iload_n 1, 1) := by decide +kernel
theorem dX1_onward_20 : decode cX1_onward 20 = .ok (.if_icmp .ne 17, 3) := by decide +kernel
theorem dX1_onward_23 : decode cX1_onward 23 = .ok (.aload_n 0, 1) := by decide +kernel
theorem dX1_onward_24 : decode cX1_onward 24 = .ok (.getfield 18, 3) := by decide +kernel
theorem dX1_onward_27 : decode cX1_onward 27 = .ok (.iload 4, 2) := by decide +kernel
theorem dX1_onward_29 : decode cX1_onward 29 = .ok (.iaload, 1) := by decide +kernel
theorem dX1_onward_30 : decode cX1_onward 30 = .ok (.iload_n 2, 1) := by decide +kernel
theorem dX1_onward_31 : decode cX1_onward 31 = .ok (.if_icmp .gt 6, 3) := by decide +kernel
theorem dX1_onward_34 : decode cX1_onward 34 = .ok (.iload 4, 2) := by decide +kernel
theorem dX1_onward_36 : decode cX1_onward 36 = .ok (.istore_n 3, 1) := by decide +kernel
theorem dX1_onward_37 : decode cX1_onward 37 = .ok (.iinc 4 1, 3) := by decide +kernel
theorem dX1_onward_40 : decode cX1_onward 40 = .ok (.goto (-35), 3) := by decide +kernel
theorem dX1_onward_43 : decode cX1_onward 43 = .ok (.iload_n 3, 1) := by decide +kernel
theorem dX1_onward_44 : decode cX1_onward 44 = .ok (.ireturn, 1) := by decide +kernel
theorem dX2_init_0 : decode cX2_init 0 = .ok (.aload_n 0, 1) := by decide +kernel
theorem dX2_init_1 : decode cX2_init 1 = .ok (.invokespecial 3, 3) := by decide +kernel
theorem dX2_init_4 : decode cX2_init 4 = .ok (.aload_n 0, 1) := by decide +kernel
theorem dX2_init_5 : decode cX2_init 5 = .ok (.bipush 12, 2) := by decide +kernel
theorem dX2_init_7 : decode cX2_init 7 = .ok (.newarray .int, 2) := by decide +kernel
theorem dX2_init_9 : decode cX2_init 9 = .ok (.putfield 9, 3) := by decide +kernel
theorem dX2_init_12 : decode cX2_init 12 = .ok (.aload_n 0, 1) := by decide +kernel
theorem dX2_init_13 : decode cX2_init 13 = .ok (.iconst 0, 1) := by decide +kernel
theorem dX2_init_14 : decode cX2_init 14 = .ok (.putfield 15, 3) := by decide +kernel
theorem dX2_init_17 : decode cX2_init 17 = .ok (.aload_n 0, 1) := by decide +kernel
theorem dX2_init_18 : decode cX2_init 18 = .ok (.aload_n 1, 1) := by decide +kernel
theorem dX2_init_19 : decode cX2_init 19 = .ok (.putfield 19, 3) := by decide +kernel
theorem dX2_init_22 : decode cX2_init 22 = .ok (.aload_n 0, 1) := by decide +kernel
theorem dX2_init_23 : decode cX2_init 23 = .ok (.aload_n 2, 1) := by decide +kernel
theorem dX2_init_24 : decode cX2_init 24 = .ok (.putfield 23, 3) := by decide +kernel
theorem dX2_init_27 : decode cX2_init 27 = .ok (.return_, 1) := by decide +kernel
theorem dX2_trace_0 : decode cX2_trace 0 = .ok (.iconst 0, 1) := by decide +kernel
theorem dX2_trace_1 : decode cX2_trace 1 = .ok (.istore_n 2, 1) := by decide +kernel
theorem dX2_trace_2 : decode cX2_trace 2 = .ok (.iload_n 1, 1) := by decide +kernel
theorem dX2_trace_3 : decode cX2_trace 3 = .ok (.istore_n 3, 1) := by decide +kernel
theorem dX2_trace_4 : decode cX2_trace 4 = .ok (.aload_n 0, 1) := by decide +kernel
theorem dX2_trace_5 : decode cX2_trace 5 = .ok (.iconst 0, 1) := by decide +kernel
theorem dX2_trace_6 : decode cX2_trace 6 = .ok (.putfield 15, 3) := by decide +kernel
theorem dX2_trace_9 : decode cX2_trace 9 = .ok (.iload_n 2, 1) := by decide +kernel
theorem dX2_trace_10 : decode cX2_trace 10 = .ok (.aload_n 0, 1) := by decide +kernel
theorem dX2_trace_11 : decode cX2_trace 11 = .ok (.getfield 19, 3) := by decide +kernel
theorem dX2_trace_14 : decode cX2_trace 14 = .ok (.invokevirtual 27, 3) := by decide +kernel
theorem dX2_trace_17 : decode cX2_trace 17 = .ok (.if_icmp .eq 78, 3) := by decide +kernel
theorem dX2_trace_20 : decode cX2_trace 20 = .ok (.aload_n 0, 1) := by decide +kernel
theorem dX2_trace_21 : decode cX2_trace 21 = .ok (.getfield 15, 3) := by decide +kernel
theorem dX2_trace_24 : decode cX2_trace 24 = .ok (.bipush 12, 2) := by decide +kernel
theorem dX2_trace_26 : decode cX2_trace 26 = .ok (.if_icmp .ge 69, 3) := by decide +kernel
theorem dX2_trace_29 : decode cX2_trace 29 = .ok (.aload_n 0, 1) := by decide +kernel
theorem dX2_trace_30 : decode cX2_trace 30 = .ok (.getfield 23, 3) := by decide +kernel
theorem dX2_trace_33 : decode cX2_trace 33 = .ok (.iload_n 2, 1) := by decide +kernel
theorem dX2_trace_34 : decode cX2_trace 34 = .ok (.iload_n 3, 1) := by decide +kernel
theorem dX2_trace_35 : decode cX2_trace 35 = .ok (.invokevirtual 33, 3) := by decide +kernel
theorem dX2_trace_38 : decode cX2_trace 38 = .ok (.istore 4, 2) := by decide +kernel
theorem dX2_trace_40 : decode cX2_trace 40 = .ok (.iload 4, 2) := by decide +kernel
theorem dX2_trace_42 : decode cX2_trace 42 = .ok (.iconst (-1), 1) := by decide +kernel
theorem dX2_trace_43 : decode cX2_trace 43 = .ok (.if_icmp .ne 4, 3) := by decide +kernel
theorem dX2_trace_46 : decode cX2_trace 46 = .ok (.return_, 1) := by decide +kernel
theorem dX2_trace_47 : decode cX2_trace 47 = .ok (.aload_n 0, 1) := by decide +kernel
theorem dX2_trace_48 : decode cX2_trace 48 = .ok (.getfield 9, 3) := by decide +kernel
theorem dX2_trace_51 : decode cX2_trace 51 = .ok (.aload_n 0, 1) := by decide +kernel
theorem dX2_trace_52 : decode cX2_trace 52 = .ok (.getfield 15, 3) := by decide +kernel
theorem dX2_trace_55 : decode cX2_trace 55 = .ok (.iload 4, 2) := by decide +kernel
theorem dX2_trace_57 : decode cX2_trace 57 = .ok (.iastore, 1) := by decide +kernel
theorem dX2_trace_58 : decode cX2_trace 58 = .ok (.aload_n 0, 1) := by decide +kernel
theorem dX2_trace_59 : decode cX2_trace 59 = .ok (.dup, 1) := by decide +kernel
theorem dX2_trace_60 : decode cX2_trace 60 = .ok (.getfield 15, 3) := by decide +kernel
theorem dX2_trace_63 : decode cX2_trace 63 = .ok (.iconst 1, 1) := by decide +kernel
theorem dX2_trace_64 : decode cX2_trace 64 = .ok (.iadd, 1) := by decide +kernel
theorem dX2_trace_65 : decode cX2_trace 65 = .ok (.putfield 15, 3) := by decide +kernel
theorem dX2_trace_68 : decode cX2_trace 68 = .ok (.iload_n 3, 1) := by decide +kernel
theorem dX2_trace_69 : decode cX2_trace 69 = .ok (.aload_n 0, 1) := by decide +kernel
theorem dX2_trace_70 : decode cX2_trace 70 = .ok (.getfield 23, 3) := by decide +kernel
theorem dX2_trace_73 : decode cX2_trace 73 = .ok (.getfield 39, 3) := by decide +kernel
theorem dX2_trace_76 : decode cX2_trace 76 = .ok (.iload 4, 2) := by decide +kernel
theorem dX2_trace_78 : decode cX2_trace 78 = .ok (.iaload, 1) := by decide +kernel
theorem dX2_trace_79 : decode cX2_trace 79 = .ok (.isub, 1) := by decide +kernel
theorem dX2_trace_80 : decode cX2_trace 80 = .ok (.istore_n 3, 1) := by decide +kernel
theorem dX2_trace_81 : decode cX2_trace 81 = .ok (.aload_n 0, 1) := by decide +kernel
theorem dX2_trace_82 : decode cX2_trace 82 = .ok (.getfield 23, 3) := by decide +kernel
theorem dX2_trace_85 : decode cX2_trace 85 = .ok (.getfield 42, 3) := by decide +kernel
theorem dX2_trace_88 : decode cX2_trace 88 = .ok (.iload 4, 2) := by decide +kernel
theorem dX2_trace_90 : decode cX2_trace 90 = .ok (.iaload, 1) := by decide +kernel
theorem dX2_trace_91 : decode cX2_trace 91 = .ok (.istore_n 2, 1) := by decide +kernel
theorem dX2_trace_92 : decode cX2_trace 92 = .ok (.goto (-83), 3) := by decide +kernel
theorem dX2_trace_95 : decode cX2_trace 95 = .ok (.return_, 1) := by decide +kernel
theorem dX2_contains_0 : decode cX2_contains 0 = .ok (.iconst 0, 1) := by decide +kernel
theorem dX2_contains_1 : decode cX2_contains 1 = .ok (.istore_n 2, 1) := by decide +kernel
theorem dX2_contains_2 : decode cX2_contains 2 = .ok (.iload_n 2, 1) := by decide +kernel
theorem dX2_contains_3 : decode cX2_contains 3 = .ok (.aload_n 0, 1) := by decide +kernel
theorem dX2_contains_4 : decode cX2_contains 4 = .ok (.getfield 15, 3) := by decide +kernel
theorem dX2_contains_7 : decode cX2_contains 7 = .ok (.if_icmp .ge 21, 3) := by decide +kernel
theorem dX2_contains_10 : decode cX2_contains 10 = .ok (.aload_n 0, 1) := by decide +kernel
theorem dX2_contains_11 : decode cX2_contains 11 = .ok (.getfield 9, 3) := by decide +kernel
theorem dX2_contains_14 : decode cX2_contains 14 = .ok (.iload_n 2, 1) := by decide +kernel
theorem dX2_contains_15 : decode cX2_contains 15 = .ok (.iaload, 1) := by decide +kernel
theorem dX2_contains_16 : decode cX2_contains 16 = .ok (.iload_n 1, 1) := by decide +kernel
theorem dX2_contains_17 : decode cX2_contains 17 = .ok (.if_icmp .ne 5, 3) := by decide +kernel
theorem dX2_contains_20 : decode cX2_contains 20 = .ok (.iconst 1, 1) := by decide +kernel
theorem dX2_contains_21 : decode cX2_contains 21 = .ok (.ireturn, 1) := by decide +kernel
theorem dX2_contains_22 : decode cX2_contains 22 = .ok (.iinc 2 1, 3) := by decide +kernel
theorem dX2_contains_25 : decode cX2_contains 25 = .ok (.goto (-23), 3) := by decide +kernel
theorem dX2_contains_28 : decode cX2_contains 28 = .ok (.iconst 0, 1) := by decide +kernel
theorem dX2_contains_29 : decode cX2_contains 29 = .ok (.ireturn, 1) := by decide +kernel
theorem dX2_startEdge_0 : decode cX2_startEdge 0 = .ok (.aload_n 0, 1) := by decide +kernel
theorem dX2_startEdge_1 : decode cX2_startEdge 1 = .ok (.getfield 15, 3) := by decide +kernel
theorem dX2_startEdge_4 : decode cX2_startEdge 4 = .ok (.ifCond .eq 14, 3) := by decide +kernel
theorem dX2_startEdge_7 : decode cX2_startEdge 7 = .ok (.aload_n 0, 1) := by decide +kernel
theorem dX2_startEdge_8 : decode cX2_startEdge 8 = .ok (.getfield 9, 3) := by decide +kernel
theorem dX2_startEdge_11 : decode cX2_startEdge 11 = .ok (.iconst 0, 1) := by decide +kernel
theorem dX2_startEdge_12 : decode cX2_startEdge 12 = .ok (.iaload, 1) := by decide +kernel
theorem dX2_startEdge_13 : decode cX2_startEdge 13 = .ok (.bipush 48, 2) := by decide +kernel
theorem dX2_startEdge_15 : decode cX2_startEdge 15 = .ok (.if_icmp .ge 5, 3) := by decide +kernel
theorem dX2_startEdge_18 : decode cX2_startEdge 18 = .ok (.iconst (-1), 1) := by decide +kernel
theorem dX2_startEdge_19 : decode cX2_startEdge 19 = .ok (.ireturn, 1) := by decide +kernel
theorem dX2_startEdge_20 : decode cX2_startEdge 20 = .ok (.aload_n 0, 1) := by decide +kernel
theorem dX2_startEdge_21 : decode cX2_startEdge 21 = .ok (.getfield 9, 3) := by decide +kernel
theorem dX2_startEdge_24 : decode cX2_startEdge 24 = .ok (.iconst 0, 1) := by decide +kernel
theorem dX2_startEdge_25 : decode cX2_startEdge 25 = .ok (.iaload, 1) := by decide +kernel
theorem dX2_startEdge_26 : decode cX2_startEdge 26 = .ok (.bipush 48, 2) := by decide +kernel
theorem dX2_startEdge_28 : decode cX2_startEdge 28 = .ok (.isub, 1) := by decide +kernel
theorem dX2_startEdge_29 : decode cX2_startEdge 29 = .ok (.ireturn, 1) := by decide +kernel
theorem dX2_endEdge_0 : decode cX2_endEdge 0 = .ok (.aload_n 0, 1) := by decide +kernel
theorem dX2_endEdge_1 : decode cX2_endEdge 1 = .ok (.getfield 15, 3) := by decide +kernel
theorem dX2_endEdge_4 : decode cX2_endEdge 4 = .ok (.ifCond .ne 5, 3) := by decide +kernel
theorem dX2_endEdge_7 : decode cX2_endEdge 7 = .ok (.iconst (-1), 1) := by decide +kernel
theorem dX2_endEdge_8 : decode cX2_endEdge 8 = .ok (.ireturn, 1) := by decide +kernel
theorem dX2_endEdge_9 : decode cX2_endEdge 9 = .ok (.aload_n 0, 1) := by decide +kernel
theorem dX2_endEdge_10 : decode cX2_endEdge 10 = .ok (.getfield 9, 3) := by decide +kernel
theorem dX2_endEdge_13 : decode cX2_endEdge 13 = .ok (.aload_n 0, 1) := by decide +kernel
theorem dX2_endEdge_14 : decode cX2_endEdge 14 = .ok (.getfield 15, 3) := by decide +kernel
theorem dX2_endEdge_17 : decode cX2_endEdge 17 = .ok (.iconst 1, 1) := by decide +kernel
theorem dX2_endEdge_18 : decode cX2_endEdge 18 = .ok (.isub, 1) := by decide +kernel
theorem dX2_endEdge_19 : decode cX2_endEdge 19 = .ok (.iaload, 1) := by decide +kernel
theorem dX2_endEdge_20 : decode cX2_endEdge 20 = .ok (.istore_n 1, 1) := by decide +kernel
theorem dX2_endEdge_21 : decode cX2_endEdge 21 = .ok (.iload_n 1, 1) := by decide +kernel
theorem dX2_endEdge_22 : decode cX2_endEdge 22 = .ok (.bipush 24, 2) := by decide +kernel
theorem dX2_endEdge_24 : decode cX2_endEdge 24 = .ok (.if_icmp .lt 16, 3) := by decide +kernel
theorem dX2_endEdge_27 : decode cX2_endEdge 27 = .ok (.iload_n 1, 1) := by decide +kernel
theorem dX2_endEdge_28 : decode cX2_endEdge 28 = .ok (.bipush 48, 2) := by decide +kernel
theorem dX2_endEdge_30 : decode cX2_endEdge 30 = .ok (.if_icmp .ge 10, 3) := by decide +kernel
theorem dX2_endEdge_33 : decode cX2_endEdge 33 = .ok (.iload_n 1, 1) := by decide +kernel
theorem dX2_endEdge_34 : decode cX2_endEdge 34 = .ok (.bipush 24, 2) := by decide +kernel
theorem dX2_endEdge_36 : decode cX2_endEdge 36 = .ok (.isub, 1) := by decide +kernel
theorem dX2_endEdge_37 : decode cX2_endEdge 37 = .ok (.goto 4, 3) := by decide +kernel
theorem dX2_endEdge_40 : decode cX2_endEdge 40 = .ok (.iconst (-1), 1) := by decide +kernel
theorem dX2_endEdge_41 : decode cX2_endEdge 41 = .ok (.ireturn, 1) := by decide +kernel
theorem dX2_nodeNumber_0 : decode cX2_nodeNumber 0 = .ok (.aload_n 0, 1) := by decide +kernel
theorem dX2_nodeNumber_1 : decode cX2_nodeNumber 1 = .ok (.getfield 15, 3) := by decide +kernel
theorem dX2_nodeNumber_4 : decode cX2_nodeNumber 4 = .ok (.iconst 1, 1) := by decide +kernel
theorem dX2_nodeNumber_5 : decode cX2_nodeNumber 5 = .ok (.iadd, 1) := by decide +kernel
theorem dX2_nodeNumber_6 : decode cX2_nodeNumber 6 = .ok (.istore_n 1, 1) := by decide +kernel
theorem dX2_nodeNumber_7 : decode cX2_nodeNumber 7 = .ok (.aload_n 0, 1) := by decide +kernel
theorem dX2_nodeNumber_8 : decode cX2_nodeNumber 8 = .ok (.invokevirtual 45, 3) := by decide +kernel
theorem dX2_nodeNumber_11 : decode cX2_nodeNumber 11 = .ok (.iconst (-1), 1) := by decide +kernel
theorem dX2_nodeNumber_12 : decode cX2_nodeNumber 12 = .ok (.if_icmp .eq 6, 3) := by decide +kernel
theorem dX2_nodeNumber_15 : decode cX2_nodeNumber 15 = .ok (.iinc 1 (-1), 3) := by decide +kernel
theorem dX2_nodeNumber_18 : decode cX2_nodeNumber 18 = .ok (.aload_n 0, 1) := by decide +kernel
theorem dX2_nodeNumber_19 : decode cX2_nodeNumber 19 = .ok (.invokevirtual 48, 3) := by decide +kernel
theorem dX2_nodeNumber_22 : decode cX2_nodeNumber 22 = .ok (.iconst (-1), 1) := by decide +kernel
theorem dX2_nodeNumber_23 : decode cX2_nodeNumber 23 = .ok (.if_icmp .eq 6, 3) := by decide +kernel
theorem dX2_nodeNumber_26 : decode cX2_nodeNumber 26 = .ok (.iinc 1 (-1), 3) := by decide +kernel
theorem dX2_nodeNumber_29 : decode cX2_nodeNumber 29 = .ok (.iload_n 1, 1) := by decide +kernel
theorem dX2_nodeNumber_30 : decode cX2_nodeNumber 30 = .ok (.ireturn, 1) := by decide +kernel
theorem dX2_nodeAt_0 : decode cX2_nodeAt 0 = .ok (.aload_n 0, 1) := by decide +kernel
theorem dX2_nodeAt_1 : decode cX2_nodeAt 1 = .ok (.invokevirtual 45, 3) := by decide +kernel
theorem dX2_nodeAt_4 : decode cX2_nodeAt 4 = .ok (.iconst (-1), 1) := by decide +kernel
theorem dX2_nodeAt_5 : decode cX2_nodeAt 5 = .ok (.if_icmp .ne 7, 3) := by decide +kernel
theorem dX2_nodeAt_8 : decode cX2_nodeAt 8 = .ok (.iload_n 1, 1) := by decide +kernel
theorem dX2_nodeAt_9 : decode cX2_nodeAt 9 = .ok (.goto 6, 3) := by decide +kernel
theorem dX2_nodeAt_12 : decode cX2_nodeAt 12 = .ok (.iload_n 1, 1) := by decide +kernel
theorem dX2_nodeAt_13 : decode cX2_nodeAt 13 = .ok (.iconst 1, 1) := by decide +kernel
theorem dX2_nodeAt_14 : decode cX2_nodeAt 14 = .ok (.iadd, 1) := by decide +kernel
theorem dX2_nodeAt_15 : decode cX2_nodeAt 15 = .ok (.istore_n 2, 1) := by decide +kernel
theorem dX2_nodeAt_16 : decode cX2_nodeAt 16 = .ok (.iload_n 2, 1) := by decide +kernel
theorem dX2_nodeAt_17 : decode cX2_nodeAt 17 = .ok (.ifCond .ne 7, 3) := by decide +kernel
theorem dX2_nodeAt_20 : decode cX2_nodeAt 20 = .ok (.iconst 0, 1) := by decide +kernel
theorem dX2_nodeAt_21 : decode cX2_nodeAt 21 = .ok (.goto 19, 3) := by decide +kernel
theorem dX2_nodeAt_24 : decode cX2_nodeAt 24 = .ok (.aload_n 0, 1) := by decide +kernel
theorem dX2_nodeAt_25 : decode cX2_nodeAt 25 = .ok (.getfield 23, 3) := by decide +kernel
theorem dX2_nodeAt_28 : decode cX2_nodeAt 28 = .ok (.getfield 42, 3) := by decide +kernel
theorem dX2_nodeAt_31 : decode cX2_nodeAt 31 = .ok (.aload_n 0, 1) := by decide +kernel
theorem dX2_nodeAt_32 : decode cX2_nodeAt 32 = .ok (.getfield 9, 3) := by decide +kernel
theorem dX2_nodeAt_35 : decode cX2_nodeAt 35 = .ok (.iload_n 2, 1) := by decide +kernel
theorem dX2_nodeAt_36 : decode cX2_nodeAt 36 = .ok (.iconst 1, 1) := by decide +kernel
theorem dX2_nodeAt_37 : decode cX2_nodeAt 37 = .ok (.isub, 1) := by decide +kernel
theorem dX2_nodeAt_38 : decode cX2_nodeAt 38 = .ok (.iaload, 1) := by decide +kernel
theorem dX2_nodeAt_39 : decode cX2_nodeAt 39 = .ok (.iaload, 1) := by decide +kernel
theorem dX2_nodeAt_40 : decode cX2_nodeAt 40 = .ok (.ireturn, 1) := by decide +kernel
theorem dX2_numberOf_0 : decode cX2_numberOf 0 = .ok (.aload_n 1, 1) := by decide +kernel
theorem dX2_numberOf_1 : decode cX2_numberOf 1 = .ok (.getfield 51, 3) := by decide +kernel
theorem dX2_numberOf_4 : decode cX2_numberOf 4 = .ok (.ifCond .ne 5, 3) := by decide +kernel
theorem dX2_numberOf_7 : decode cX2_numberOf 7 = .ok (.iconst (-1), 1) := by decide +kernel
theorem dX2_numberOf_8 : decode cX2_numberOf 8 = .ok (.ireturn, 1) := by decide +kernel
theorem dX2_numberOf_9 : decode cX2_numberOf 9 = .ok (.aload_n 1, 1) := by decide +kernel
theorem dX2_numberOf_10 : decode cX2_numberOf 10 = .ok (.iconst 0, 1) := by decide +kernel
theorem dX2_numberOf_11 : decode cX2_numberOf 11 = .ok (.invokevirtual 56, 3) := by decide +kernel
theorem dX2_numberOf_14 : decode cX2_numberOf 14 = .ok (.istore_n 2, 1) := by decide +kernel
theorem dX2_numberOf_15 : decode cX2_numberOf 15 = .ok (.aload_n 1, 1) := by decide +kernel
theorem dX2_numberOf_16 : decode cX2_numberOf 16 = .ok (.aload_n 1, 1) := by decide +kernel
theorem dX2_numberOf_17 : decode cX2_numberOf 17 = .ok (.getfield 51, 3) := by decide +kernel
theorem dX2_numberOf_20 : decode cX2_numberOf 20 = .ok (.iconst 1, 1) := by decide +kernel
theorem dX2_numberOf_21 : decode cX2_numberOf 21 = .ok (.isub, 1) := by decide +kernel
theorem dX2_numberOf_22 : decode cX2_numberOf 22 = .ok (.invokevirtual 56, 3) := by decide +kernel
theorem dX2_numberOf_25 : decode cX2_numberOf 25 = .ok (.istore_n 3, 1) := by decide +kernel
theorem dX2_numberOf_26 : decode cX2_numberOf 26 = .ok (.iconst 0, 1) := by decide +kernel
theorem dX2_numberOf_27 : decode cX2_numberOf 27 = .ok (.istore 4, 2) := by decide +kernel
theorem dX2_numberOf_29 : decode cX2_numberOf 29 = .ok (.iload_n 2, 1) := by decide +kernel
theorem dX2_numberOf_30 : decode cX2_numberOf 30 = .ok (.ifCond .eq 22, 3) := by decide +kernel
theorem dX2_numberOf_33 : decode cX2_numberOf 33 = .ok (.aload_n 0, 1) := by decide +kernel
theorem dX2_numberOf_34 : decode cX2_numberOf 34 = .ok (.iload 4, 2) := by decide +kernel
theorem dX2_numberOf_36 : decode cX2_numberOf 36 = .ok (.aload_n 0, 1) := by decide +kernel
theorem dX2_numberOf_37 : decode cX2_numberOf 37 = .ok (.getfield 23, 3) := by decide +kernel
theorem dX2_numberOf_40 : decode cX2_numberOf 40 = .ok (.bipush 48, 2) := by decide +kernel
theorem dX2_numberOf_42 : decode cX2_numberOf 42 = .ok (.iconst 0, 1) := by decide +kernel
theorem dX2_numberOf_43 : decode cX2_numberOf 43 = .ok (.iload_n 2, 1) := by decide +kernel
theorem dX2_numberOf_44 : decode cX2_numberOf 44 = .ok (.invokevirtual 60, 3) := by decide +kernel
theorem dX2_numberOf_47 : decode cX2_numberOf 47 = .ok (.invokevirtual 64, 3) := by decide +kernel
theorem dX2_numberOf_50 : decode cX2_numberOf 50 = .ok (.istore 4, 2) := by decide +kernel
theorem dX2_numberOf_52 : decode cX2_numberOf 52 = .ok (.iconst 1, 1) := by decide +kernel
theorem dX2_numberOf_53 : decode cX2_numberOf 53 = .ok (.istore 5, 2) := by decide +kernel
theorem dX2_numberOf_55 : decode cX2_numberOf 55 = .ok (.iload 5, 2) := by decide +kernel
theorem dX2_numberOf_57 : decode cX2_numberOf 57 = .ok (.aload_n 1, 1) := by decide +kernel
theorem dX2_numberOf_58 : decode cX2_numberOf 58 = .ok (.getfield 51, 3) := by decide +kernel
theorem dX2_numberOf_61 : decode cX2_numberOf 61 = .ok (.if_icmp .ge 43, 3) := by decide +kernel
theorem dX2_numberOf_64 : decode cX2_numberOf 64 = .ok (.aload_n 1, 1) := by decide +kernel
theorem dX2_numberOf_65 : decode cX2_numberOf 65 = .ok (.iload 5, 2) := by decide +kernel
theorem dX2_numberOf_67 : decode cX2_numberOf 67 = .ok (.iconst 1, 1) := by decide +kernel
theorem dX2_numberOf_68 : decode cX2_numberOf 68 = .ok (.isub, 1) := by decide +kernel
theorem dX2_numberOf_69 : decode cX2_numberOf 69 = .ok (.invokevirtual 56, 3) := by decide +kernel
theorem dX2_numberOf_72 : decode cX2_numberOf 72 = .ok (.istore 6, 2) := by decide +kernel
theorem dX2_numberOf_74 : decode cX2_numberOf 74 = .ok (.aload_n 0, 1) := by decide +kernel
theorem dX2_numberOf_75 : decode cX2_numberOf 75 = .ok (.iload 4, 2) := by decide +kernel
theorem dX2_numberOf_77 : decode cX2_numberOf 77 = .ok (.aload_n 0, 1) := by decide +kernel
theorem dX2_numberOf_78 : decode cX2_numberOf 78 = .ok (.getfield 23, 3) := by decide +kernel
theorem dX2_numberOf_81 : decode cX2_numberOf 81 = .ok (.iconst 0, 1) := by decide +kernel
theorem dX2_numberOf_82 : decode cX2_numberOf 82 = .ok (.iload 6, 2) := by decide +kernel
theorem dX2_numberOf_84 : decode cX2_numberOf 84 = .ok (.aload_n 1, 1) := by decide +kernel
theorem dX2_numberOf_85 : decode cX2_numberOf 85 = .ok (.iload 5, 2) := by decide +kernel
theorem dX2_numberOf_87 : decode cX2_numberOf 87 = .ok (.invokevirtual 56, 3) := by decide +kernel
theorem dX2_numberOf_90 : decode cX2_numberOf 90 = .ok (.invokevirtual 60, 3) := by decide +kernel
theorem dX2_numberOf_93 : decode cX2_numberOf 93 = .ok (.invokevirtual 64, 3) := by decide +kernel
theorem dX2_numberOf_96 : decode cX2_numberOf 96 = .ok (.istore 4, 2) := by decide +kernel
theorem dX2_numberOf_98 : decode cX2_numberOf 98 = .ok (.iinc 5 1, 3) := by decide +kernel
theorem dX2_numberOf_101 : decode cX2_numberOf 101 = .ok (.goto (-46), 3) := by decide +kernel
theorem dX2_numberOf_104 : decode cX2_numberOf 104 = .ok (.iload_n 3, 1) := by decide +kernel
theorem dX2_numberOf_105 : decode cX2_numberOf 105 = .ok (.aload_n 0, 1) := by decide +kernel
theorem dX2_numberOf_106 : decode cX2_numberOf 106 = .ok (.getfield 19, 3) := by decide +kernel
theorem dX2_numberOf_109 : decode cX2_numberOf 109 = .ok (.invokevirtual 27, 3) := by decide +kernel
theorem dX2_numberOf_112 : decode cX2_numberOf 112 = .ok (.if_icmp .eq 28, 3) := by decide +kernel
theorem dX2_numberOf_115 : decode cX2_numberOf 115 = .ok (.aload_n 0, 1) := by decide +kernel
theorem dX2_numberOf_116 : decode cX2_numberOf 116 = .ok (.iload 4, 2) := by decide +kernel
theorem dX2_numberOf_118 : decode cX2_numberOf 118 = .ok (.aload_n 0, 1) := by decide +kernel
theorem dX2_numberOf_119 : decode cX2_numberOf 119 = .ok (.getfield 23, 3) := by decide +kernel
theorem dX2_numberOf_122 : decode cX2_numberOf 122 = .ok (.bipush 24, 2) := by decide +kernel
theorem dX2_numberOf_124 : decode cX2_numberOf 124 = .ok (.iload_n 3, 1) := by decide +kernel
theorem dX2_numberOf_125 : decode cX2_numberOf 125 = .ok (.aload_n 0, 1) := by decide +kernel
theorem dX2_numberOf_126 : decode cX2_numberOf 126 = .ok (.getfield 19, 3) := by decide +kernel
theorem dX2_numberOf_129 : decode cX2_numberOf 129 = .ok (.invokevirtual 27, 3) := by decide +kernel
theorem dX2_numberOf_132 : decode cX2_numberOf 132 = .ok (.invokevirtual 60, 3) := by decide +kernel
theorem dX2_numberOf_135 : decode cX2_numberOf 135 = .ok (.invokevirtual 64, 3) := by decide +kernel
theorem dX2_numberOf_138 : decode cX2_numberOf 138 = .ok (.istore 4, 2) := by decide +kernel
theorem dX2_numberOf_140 : decode cX2_numberOf 140 = .ok (.iload 4, 2) := by decide +kernel
theorem dX2_numberOf_142 : decode cX2_numberOf 142 = .ok (.ireturn, 1) := by decide +kernel
theorem dX2_plusValue_0 : decode cX2_plusValue 0 = .ok (.iload_n 1, 1) := by decide +kernel
theorem dX2_plusValue_1 : decode cX2_plusValue 1 = .ok (.iconst (-1), 1) := by decide +kernel
theorem dX2_plusValue_2 : decode cX2_plusValue 2 = .ok (.if_icmp .eq 8, 3) := by decide +kernel
theorem dX2_plusValue_5 : decode cX2_plusValue 5 = .ok (.iload_n 2, 1) := by decide +kernel
theorem dX2_plusValue_6 : decode cX2_plusValue 6 = .ok (.iconst (-1), 1) := by decide +kernel
theorem dX2_plusValue_7 : decode cX2_plusValue 7 = .ok (.if_icmp .ne 7, 3) := by decide +kernel
theorem dX2_plusValue_10 : decode cX2_plusValue 10 = .ok (.iconst (-1), 1) := by decide +kernel
theorem dX2_plusValue_11 : decode cX2_plusValue 11 = .ok (.goto 14, 3) := by decide +kernel
theorem dX2_plusValue_14 : decode cX2_plusValue 14 = .ok (.iload_n 1, 1) := by decide +kernel
theorem dX2_plusValue_15 : decode cX2_plusValue 15 = .ok (.aload_n 0, 1) := by decide +kernel
theorem dX2_plusValue_16 : decode cX2_plusValue 16 = .ok (.getfield 23, 3) := by decide +kernel
theorem dX2_plusValue_19 : decode cX2_plusValue 19 = .ok (.getfield 39, 3) := by decide +kernel
theorem dX2_plusValue_22 : decode cX2_plusValue 22 = .ok (.iload_n 2, 1) := by decide +kernel
theorem dX2_plusValue_23 : decode cX2_plusValue 23 = .ok (.iaload, 1) := by decide +kernel
theorem dX2_plusValue_24 : decode cX2_plusValue 24 = .ok (.iadd, 1) := by decide +kernel
theorem dX2_plusValue_25 : decode cX2_plusValue 25 = .ok (.ireturn, 1) := by decide +kernel
theorem dX3_init_0 : decode cX3_init 0 = .ok (.aload_n 0, 1) := by decide +kernel
theorem dX3_init_1 : decode cX3_init 1 = .ok (.invokespecial 3, 3) := by decide +kernel
theorem dX3_init_4 : decode cX3_init 4 = .ok (.aload_n 0, 1) := by decide +kernel
theorem dX3_init_5 : decode cX3_init 5 = .ok (.new 9, 3) := by decide +kernel
theorem dX3_init_8 : decode cX3_init 8 = .ok (.dup, 1) := by decide +kernel
theorem dX3_init_9 : decode cX3_init 9 = .ok (.invokespecial 11, 3) := by decide +kernel
theorem dX3_init_12 : decode cX3_init 12 = .ok (.putfield 12, 3) := by decide +kernel
theorem dX3_init_15 : decode cX3_init 15 = .ok (.aload_n 0, 1) := by decide +kernel
theorem dX3_init_16 : decode cX3_init 16 = .ok (.iconst 0, 1) := by decide +kernel
theorem dX3_init_17 : decode cX3_init 17 = .ok (.putfield 18, 3) := by decide +kernel
theorem dX3_init_20 : decode cX3_init 20 = .ok (.return_, 1) := by decide +kernel
theorem dX3_read_0 : decode cX3_read 0 = .ok (.aload_n 0, 1) := by decide +kernel
theorem dX3_read_1 : decode cX3_read 1 = .ok (.getfield 12, 3) := by decide +kernel
theorem dX3_read_4 : decode cX3_read 4 = .ok (.iconst 2, 1) := by decide +kernel
theorem dX3_read_5 : decode cX3_read 5 = .ok (.invokevirtual 22, 3) := by decide +kernel
theorem dX3_read_8 : decode cX3_read 8 = .ok (.iconst 0, 1) := by decide +kernel
theorem dX3_read_9 : decode cX3_read 9 = .ok (.istore_n 2, 1) := by decide +kernel
theorem dX3_read_10 : decode cX3_read 10 = .ok (.iload_n 2, 1) := by decide +kernel
theorem dX3_read_11 : decode cX3_read 11 = .ok (.aload_n 1, 1) := by decide +kernel
theorem dX3_read_12 : decode cX3_read 12 = .ok (.getfield 26, 3) := by decide +kernel
theorem dX3_read_15 : decode cX3_read 15 = .ok (.if_icmp .ge 25, 3) := by decide +kernel
theorem dX3_read_18 : decode cX3_read 18 = .ok (.aload_n 0, 1) := by decide +kernel
theorem dX3_read_19 : decode cX3_read 19 = .ok (.iload_n 2, 1) := by decide +kernel
theorem dX3_read_20 : decode cX3_read 20 = .ok (.aload_n 1, 1) := by decide +kernel
theorem dX3_read_21 : decode cX3_read 21 = .ok (.getfield 31, 3) := by decide +kernel
theorem dX3_read_24 : decode cX3_read 24 = .ok (.iload_n 2, 1) := by decide +kernel
theorem dX3_read_25 : decode cX3_read 25 = .ok (.iaload, 1) := by decide +kernel
theorem dX3_read_26 : decode cX3_read 26 = .ok (.invokevirtual 35, 3) := by decide +kernel
theorem dX3_read_29 : decode cX3_read 29 = .ok (.ifCond .ne 5, 3) := by decide +kernel
theorem dX3_read_32 : decode cX3_read 32 = .ok (.iload_n 2, 1) := by decide +kernel
theorem dX3_read_33 : decode cX3_read 33 = .ok (.ireturn, 1) := by decide +kernel
theorem dX3_read_34 : decode cX3_read 34 = .ok (.iinc 2 1, 3) := by decide +kernel
theorem dX3_read_37 : decode cX3_read 37 = .ok (.goto (-27), 3) := by decide +kernel
theorem dX3_read_40 : decode cX3_read 40 = .ok (.aload_n 1, 1) := by decide +kernel
theorem dX3_read_41 : decode cX3_read 41 = .ok (.getfield 26, 3) := by decide +kernel
theorem dX3_read_44 : decode cX3_read 44 = .ok (.ireturn, 1) := by decide +kernel
theorem dX3_readsGraph_0 : decode cX3_readsGraph 0 = .ok (.aload_n 1, 1) := by decide +kernel
theorem dX3_readsGraph_1 : decode cX3_readsGraph 1 = .ok (.getfield 26, 3) := by decide +kernel
theorem dX3_readsGraph_4 : decode cX3_readsGraph 4 = .ok (.iconst 4, 1) := by decide +kernel
theorem dX3_readsGraph_5 : decode cX3_readsGraph 5 = .ok (.if_icmp .lt 30, 3) := by decide +kernel
theorem dX3_readsGraph_8 : decode cX3_readsGraph 8 = .ok (.aload_n 0, 1) := by decide +kernel
theorem dX3_readsGraph_9 : decode cX3_readsGraph 9 = .ok (.aload_n 1, 1) := by decide +kernel
theorem dX3_readsGraph_10 : decode cX3_readsGraph 10 = .ok (.getfield 26, 3) := by decide +kernel
theorem dX3_readsGraph_13 : decode cX3_readsGraph 13 = .ok (.invokevirtual 39, 3) := by decide +kernel
theorem dX3_readsGraph_16 : decode cX3_readsGraph 16 = .ok (.ifCond .eq 19, 3) := by decide +kernel
theorem dX3_readsGraph_19 : decode cX3_readsGraph 19 = .ok (.aload_n 0, 1) := by decide +kernel
theorem dX3_readsGraph_20 : decode cX3_readsGraph 20 = .ok (.aload_n 1, 1) := by decide +kernel
theorem dX3_readsGraph_21 : decode cX3_readsGraph 21 = .ok (.invokevirtual 43, 3) := by decide +kernel
theorem dX3_readsGraph_24 : decode cX3_readsGraph 24 = .ok (.aload_n 1, 1) := by decide +kernel
theorem dX3_readsGraph_25 : decode cX3_readsGraph 25 = .ok (.getfield 26, 3) := by decide +kernel
theorem dX3_readsGraph_28 : decode cX3_readsGraph 28 = .ok (.if_icmp .ne 7, 3) := by decide +kernel
theorem dX3_readsGraph_31 : decode cX3_readsGraph 31 = .ok (.iconst 1, 1) := by decide +kernel
theorem dX3_readsGraph_32 : decode cX3_readsGraph 32 = .ok (.goto 4, 3) := by decide +kernel
theorem dX3_readsGraph_35 : decode cX3_readsGraph 35 = .ok (.iconst 0, 1) := by decide +kernel
theorem dX3_readsGraph_36 : decode cX3_readsGraph 36 = .ok (.ireturn, 1) := by decide +kernel
theorem dX3_endsWithTarget_0 : decode cX3_endsWithTarget 0 = .ok (.iload_n 1, 1) := by decide +kernel
theorem dX3_endsWithTarget_1 : decode cX3_endsWithTarget 1 = .ok (.iconst 3, 1) := by decide +kernel
theorem dX3_endsWithTarget_2 : decode cX3_endsWithTarget 2 = .ok (.irem, 1) := by decide +kernel
theorem dX3_endsWithTarget_3 : decode cX3_endsWithTarget 3 = .ok (.iconst 1, 1) := by decide +kernel
theorem dX3_endsWithTarget_4 : decode cX3_endsWithTarget 4 = .ok (.if_icmp .ne 7, 3) := by decide +kernel
theorem dX3_endsWithTarget_7 : decode cX3_endsWithTarget 7 = .ok (.iconst 1, 1) := by decide +kernel
theorem dX3_endsWithTarget_8 : decode cX3_endsWithTarget 8 = .ok (.goto 4, 3) := by decide +kernel
theorem dX3_endsWithTarget_11 : decode cX3_endsWithTarget 11 = .ok (.iconst 0, 1) := by decide +kernel
theorem dX3_endsWithTarget_12 : decode cX3_endsWithTarget 12 = .ok (.ireturn, 1) := by decide +kernel
theorem dX3_takes_0 : decode cX3_takes 0 = .ok (.iload_n 1, 1) := by decide +kernel
theorem dX3_takes_1 : decode cX3_takes 1 = .ok (.ifCond .ne 12, 3) := by decide +kernel
theorem dX3_takes_4 : decode cX3_takes 4 = .ok (.aload_n 0, 1) := by decide +kernel
theorem dX3_takes_5 : decode cX3_takes 5 = .ok (.iload_n 2, 1) := by decide +kernel
theorem dX3_takes_6 : decode cX3_takes 6 = .ok (.bipush 97, 2) := by decide +kernel
theorem dX3_takes_8 : decode cX3_takes 8 = .ok (.isub, 1) := by decide +kernel
theorem dX3_takes_9 : decode cX3_takes 9 = .ok (.invokevirtual 47, 3) := by decide +kernel
theorem dX3_takes_12 : decode cX3_takes 12 = .ok (.ireturn, 1) := by decide +kernel
theorem dX3_takes_13 : decode cX3_takes 13 = .ok (.iload_n 1, 1) := by decide +kernel
theorem dX3_takes_14 : decode cX3_takes 14 = .ok (.iconst 1, 1) := by decide +kernel
theorem dX3_takes_15 : decode cX3_takes 15 = .ok (.if_icmp .ne 15, 3) := by decide +kernel
theorem dX3_takes_18 : decode cX3_takes 18 = .ok (.iload_n 2, 1) := by decide +kernel
theorem dX3_takes_19 : decode cX3_takes 19 = .ok (.bipush 58, 2) := by decide +kernel
theorem dX3_takes_21 : decode cX3_takes 21 = .ok (.if_icmp .ne 7, 3) := by decide +kernel
theorem dX3_takes_24 : decode cX3_takes 24 = .ok (.iconst 1, 1) := by decide +kernel
theorem dX3_takes_25 : decode cX3_takes 25 = .ok (.goto 4, 3) := by decide +kernel
theorem dX3_takes_28 : decode cX3_takes 28 = .ok (.iconst 0, 1) := by decide +kernel
theorem dX3_takes_29 : decode cX3_takes 29 = .ok (.ireturn, 1) := by decide +kernel
theorem dX3_takes_30 : decode cX3_takes 30 = .ok (.iload_n 1, 1) := by decide +kernel
theorem dX3_takes_31 : decode cX3_takes 31 = .ok (.iconst 3, 1) := by decide +kernel
theorem dX3_takes_32 : decode cX3_takes 32 = .ok (.irem, 1) := by decide +kernel
theorem dX3_takes_33 : decode cX3_takes 33 = .ok (.lookupswitch 58 #[(0, 27), (1, 36)], 27) := by decide +kernel
theorem dX3_takes_60 : decode cX3_takes 60 = .ok (.aload_n 0, 1) := by decide +kernel
theorem dX3_takes_61 : decode cX3_takes 61 = .ok (.iload_n 2, 1) := by decide +kernel
theorem dX3_takes_62 : decode cX3_takes 62 = .ok (.bipush 97, 2) := by decide +kernel
theorem dX3_takes_64 : decode cX3_takes 64 = .ok (.isub, 1) := by decide +kernel
theorem dX3_takes_65 : decode cX3_takes 65 = .ok (.invokevirtual 50, 3) := by decide +kernel
theorem dX3_takes_68 : decode cX3_takes 68 = .ok (.ireturn, 1) := by decide +kernel
theorem dX3_takes_69 : decode cX3_takes 69 = .ok (.iload_n 2, 1) := by decide +kernel
theorem dX3_takes_70 : decode cX3_takes 70 = .ok (.bipush 44, 2) := by decide +kernel
theorem dX3_takes_72 : decode cX3_takes 72 = .ok (.if_icmp .ne 17, 3) := by decide +kernel
theorem dX3_takes_75 : decode cX3_takes 75 = .ok (.aload_n 0, 1) := by decide +kernel
theorem dX3_takes_76 : decode cX3_takes 76 = .ok (.getfield 12, 3) := by decide +kernel
theorem dX3_takes_79 : decode cX3_takes 79 = .ok (.invokevirtual 53, 3) := by decide +kernel
theorem dX3_takes_82 : decode cX3_takes 82 = .ok (.ifCond .ne 7, 3) := by decide +kernel
theorem dX3_takes_85 : decode cX3_takes 85 = .ok (.iconst 1, 1) := by decide +kernel
theorem dX3_takes_86 : decode cX3_takes 86 = .ok (.goto 4, 3) := by decide +kernel
theorem dX3_takes_89 : decode cX3_takes 89 = .ok (.iconst 0, 1) := by decide +kernel
theorem dX3_takes_90 : decode cX3_takes 90 = .ok (.ireturn, 1) := by decide +kernel
theorem dX3_takes_91 : decode cX3_takes 91 = .ok (.aload_n 0, 1) := by decide +kernel
theorem dX3_takes_92 : decode cX3_takes 92 = .ok (.iload_n 2, 1) := by decide +kernel
theorem dX3_takes_93 : decode cX3_takes 93 = .ok (.bipush 97, 2) := by decide +kernel
theorem dX3_takes_95 : decode cX3_takes 95 = .ok (.isub, 1) := by decide +kernel
theorem dX3_takes_96 : decode cX3_takes 96 = .ok (.invokevirtual 57, 3) := by decide +kernel
theorem dX3_takes_99 : decode cX3_takes 99 = .ok (.ireturn, 1) := by decide +kernel
theorem dX3_takesExit_0 : decode cX3_takesExit 0 = .ok (.iload_n 1, 1) := by decide +kernel
theorem dX3_takesExit_1 : decode cX3_takesExit 1 = .ok (.iconst 1, 1) := by decide +kernel
theorem dX3_takesExit_2 : decode cX3_takesExit 2 = .ok (.if_icmp .lt 9, 3) := by decide +kernel
theorem dX3_takesExit_5 : decode cX3_takesExit 5 = .ok (.iload_n 1, 1) := by decide +kernel
theorem dX3_takesExit_6 : decode cX3_takesExit 6 = .ok (.bipush 12, 2) := by decide +kernel
theorem dX3_takesExit_8 : decode cX3_takesExit 8 = .ok (.if_icmp .lt 5, 3) := by decide +kernel
theorem dX3_takesExit_11 : decode cX3_takesExit 11 = .ok (.iconst 0, 1) := by decide +kernel
theorem dX3_takesExit_12 : decode cX3_takesExit 12 = .ok (.ireturn, 1) := by decide +kernel
theorem dX3_takesExit_13 : decode cX3_takesExit 13 = .ok (.aload_n 0, 1) := by decide +kernel
theorem dX3_takesExit_14 : decode cX3_takesExit 14 = .ok (.getfield 12, 3) := by decide +kernel
theorem dX3_takesExit_17 : decode cX3_takesExit 17 = .ok (.iload_n 1, 1) := by decide +kernel
theorem dX3_takesExit_18 : decode cX3_takesExit 18 = .ok (.iconst 1, 1) := by decide +kernel
theorem dX3_takesExit_19 : decode cX3_takesExit 19 = .ok (.iadd, 1) := by decide +kernel
theorem dX3_takesExit_20 : decode cX3_takesExit 20 = .ok (.invokevirtual 22, 3) := by decide +kernel
theorem dX3_takesExit_23 : decode cX3_takesExit 23 = .ok (.iconst 1, 1) := by decide +kernel
theorem dX3_takesExit_24 : decode cX3_takesExit 24 = .ok (.ireturn, 1) := by decide +kernel
theorem dX3_takesSource_0 : decode cX3_takesSource 0 = .ok (.aload_n 0, 1) := by decide +kernel
theorem dX3_takesSource_1 : decode cX3_takesSource 1 = .ok (.getfield 12, 3) := by decide +kernel
theorem dX3_takesSource_4 : decode cX3_takesSource 4 = .ok (.iload_n 1, 1) := by decide +kernel
theorem dX3_takesSource_5 : decode cX3_takesSource 5 = .ok (.invokevirtual 60, 3) := by decide +kernel
theorem dX3_takesSource_8 : decode cX3_takesSource 8 = .ok (.ifCond .eq 14, 3) := by decide +kernel
theorem dX3_takesSource_11 : decode cX3_takesSource 11 = .ok (.iload_n 1, 1) := by decide +kernel
theorem dX3_takesSource_12 : decode cX3_takesSource 12 = .ok (.aload_n 0, 1) := by decide +kernel
theorem dX3_takesSource_13 : decode cX3_takesSource 13 = .ok (.getfield 12, 3) := by decide +kernel
theorem dX3_takesSource_16 : decode cX3_takesSource 16 = .ok (.invokevirtual 63, 3) := by decide +kernel
theorem dX3_takesSource_19 : decode cX3_takesSource 19 = .ok (.if_icmp .ne 5, 3) := by decide +kernel
theorem dX3_takesSource_22 : decode cX3_takesSource 22 = .ok (.iconst 0, 1) := by decide +kernel
theorem dX3_takesSource_23 : decode cX3_takesSource 23 = .ok (.ireturn, 1) := by decide +kernel
theorem dX3_takesSource_24 : decode cX3_takesSource 24 = .ok (.aload_n 0, 1) := by decide +kernel
theorem dX3_takesSource_25 : decode cX3_takesSource 25 = .ok (.iload_n 1, 1) := by decide +kernel
theorem dX3_takesSource_26 : decode cX3_takesSource 26 = .ok (.putfield 18, 3) := by decide +kernel
theorem dX3_takesSource_29 : decode cX3_takesSource 29 = .ok (.iconst 1, 1) := by decide +kernel
theorem dX3_takesSource_30 : decode cX3_takesSource 30 = .ok (.ireturn, 1) := by decide +kernel
theorem dX3_takesTarget_0 : decode cX3_takesTarget 0 = .ok (.aload_n 0, 1) := by decide +kernel
theorem dX3_takesTarget_1 : decode cX3_takesTarget 1 = .ok (.getfield 12, 3) := by decide +kernel
theorem dX3_takesTarget_4 : decode cX3_takesTarget 4 = .ok (.invokevirtual 53, 3) := by decide +kernel
theorem dX3_takesTarget_7 : decode cX3_takesTarget 7 = .ok (.ifCond .ne 18, 3) := by decide +kernel
theorem dX3_takesTarget_10 : decode cX3_takesTarget 10 = .ok (.aload_n 0, 1) := by decide +kernel
theorem dX3_takesTarget_11 : decode cX3_takesTarget 11 = .ok (.getfield 12, 3) := by decide +kernel
theorem dX3_takesTarget_14 : decode cX3_takesTarget 14 = .ok (.aload_n 0, 1) := by decide +kernel
theorem dX3_takesTarget_15 : decode cX3_takesTarget 15 = .ok (.getfield 18, 3) := by decide +kernel
theorem dX3_takesTarget_18 : decode cX3_takesTarget 18 = .ok (.iload_n 1, 1) := by decide +kernel
theorem dX3_takesTarget_19 : decode cX3_takesTarget 19 = .ok (.invokevirtual 67, 3) := by decide +kernel
theorem dX3_takesTarget_22 : decode cX3_takesTarget 22 = .ok (.ifCond .ne 5, 3) := by decide +kernel
theorem dX3_takesTarget_25 : decode cX3_takesTarget 25 = .ok (.iconst 0, 1) := by decide +kernel
theorem dX3_takesTarget_26 : decode cX3_takesTarget 26 = .ok (.ireturn, 1) := by decide +kernel
theorem dX3_takesTarget_27 : decode cX3_takesTarget 27 = .ok (.aload_n 0, 1) := by decide +kernel
theorem dX3_takesTarget_28 : decode cX3_takesTarget 28 = .ok (.getfield 12, 3) := by decide +kernel
theorem dX3_takesTarget_31 : decode cX3_takesTarget 31 = .ok (.aload_n 0, 1) := by decide +kernel
theorem dX3_takesTarget_32 : decode cX3_takesTarget 32 = .ok (.getfield 18, 3) := by decide +kernel
theorem dX3_takesTarget_35 : decode cX3_takesTarget 35 = .ok (.iload_n 1, 1) := by decide +kernel
theorem dX3_takesTarget_36 : decode cX3_takesTarget 36 = .ok (.invokevirtual 70, 3) := by decide +kernel
theorem dX3_takesTarget_39 : decode cX3_takesTarget 39 = .ok (.pop, 1) := by decide +kernel
theorem dX3_takesTarget_40 : decode cX3_takesTarget 40 = .ok (.iconst 1, 1) := by decide +kernel
theorem dX3_takesTarget_41 : decode cX3_takesTarget 41 = .ok (.ireturn, 1) := by decide +kernel
theorem dX4_init_0 : decode cX4_init 0 = .ok (.aload_n 0, 1) := by decide +kernel
theorem dX4_init_1 : decode cX4_init 1 = .ok (.invokespecial 3, 3) := by decide +kernel
theorem dX4_init_4 : decode cX4_init 4 = .ok (.aload_n 0, 1) := by decide +kernel
theorem dX4_init_5 : decode cX4_init 5 = .ok (.bipush 24, 2) := by decide +kernel
theorem dX4_init_7 : decode cX4_init 7 = .ok (.newarray .boolean, 2) := by decide +kernel
theorem dX4_init_9 : decode cX4_init 9 = .ok (.putfield 9, 3) := by decide +kernel
theorem dX4_init_12 : decode cX4_init 12 = .ok (.aload_n 0, 1) := by decide +kernel
theorem dX4_init_13 : decode cX4_init 13 = .ok (.bipush 12, 2) := by decide +kernel
theorem dX4_init_15 : decode cX4_init 15 = .ok (.newarray .int, 2) := by decide +kernel
theorem dX4_init_17 : decode cX4_init 17 = .ok (.putfield 15, 3) := by decide +kernel
theorem dX4_init_20 : decode cX4_init 20 = .ok (.aload_n 0, 1) := by decide +kernel
theorem dX4_init_21 : decode cX4_init 21 = .ok (.iconst 0, 1) := by decide +kernel
theorem dX4_init_22 : decode cX4_init 22 = .ok (.putfield 19, 3) := by decide +kernel
theorem dX4_init_25 : decode cX4_init 25 = .ok (.aload_n 0, 1) := by decide +kernel
theorem dX4_init_26 : decode cX4_init 26 = .ok (.bipush 12, 2) := by decide +kernel
theorem dX4_init_28 : decode cX4_init 28 = .ok (.newarray .int, 2) := by decide +kernel
theorem dX4_init_30 : decode cX4_init 30 = .ok (.putfield 23, 3) := by decide +kernel
theorem dX4_init_33 : decode cX4_init 33 = .ok (.aload_n 0, 1) := by decide +kernel
theorem dX4_init_34 : decode cX4_init 34 = .ok (.iconst 0, 1) := by decide +kernel
theorem dX4_init_35 : decode cX4_init 35 = .ok (.putfield 26, 3) := by decide +kernel
theorem dX4_init_38 : decode cX4_init 38 = .ok (.aload_n 0, 1) := by decide +kernel
theorem dX4_init_39 : decode cX4_init 39 = .ok (.bipush 12, 2) := by decide +kernel
theorem dX4_init_41 : decode cX4_init 41 = .ok (.newarray .int, 2) := by decide +kernel
theorem dX4_init_43 : decode cX4_init 43 = .ok (.putfield 29, 3) := by decide +kernel
theorem dX4_init_46 : decode cX4_init 46 = .ok (.aload_n 0, 1) := by decide +kernel
theorem dX4_init_47 : decode cX4_init 47 = .ok (.bipush 12, 2) := by decide +kernel
theorem dX4_init_49 : decode cX4_init 49 = .ok (.newarray .boolean, 2) := by decide +kernel
theorem dX4_init_51 : decode cX4_init 51 = .ok (.putfield 32, 3) := by decide +kernel
theorem dX4_init_54 : decode cX4_init 54 = .ok (.aload_n 0, 1) := by decide +kernel
theorem dX4_init_55 : decode cX4_init 55 = .ok (.bipush 12, 2) := by decide +kernel
theorem dX4_init_57 : decode cX4_init 57 = .ok (.newarray .boolean, 2) := by decide +kernel
theorem dX4_init_59 : decode cX4_init 59 = .ok (.putfield 35, 3) := by decide +kernel
theorem dX4_init_62 : decode cX4_init 62 = .ok (.aload_n 0, 1) := by decide +kernel
theorem dX4_init_63 : decode cX4_init 63 = .ok (.bipush 12, 2) := by decide +kernel
theorem dX4_init_65 : decode cX4_init 65 = .ok (.newarray .boolean, 2) := by decide +kernel
theorem dX4_init_67 : decode cX4_init 67 = .ok (.putfield 38, 3) := by decide +kernel
theorem dX4_init_70 : decode cX4_init 70 = .ok (.aload_n 0, 1) := by decide +kernel
theorem dX4_init_71 : decode cX4_init 71 = .ok (.aload_n 1, 1) := by decide +kernel
theorem dX4_init_72 : decode cX4_init 72 = .ok (.putfield 41, 3) := by decide +kernel
theorem dX4_init_75 : decode cX4_init 75 = .ok (.return_, 1) := by decide +kernel
theorem dX4_run_0 : decode cX4_run 0 = .ok (.aload_n 0, 1) := by decide +kernel
theorem dX4_run_1 : decode cX4_run 1 = .ok (.invokevirtual 45, 3) := by decide +kernel
theorem dX4_run_4 : decode cX4_run 4 = .ok (.aload_n 0, 1) := by decide +kernel
theorem dX4_run_5 : decode cX4_run 5 = .ok (.iconst 0, 1) := by decide +kernel
theorem dX4_run_6 : decode cX4_run 6 = .ok (.invokevirtual 48, 3) := by decide +kernel
theorem dX4_run_9 : decode cX4_run 9 = .ok (.iconst 0, 1) := by decide +kernel
theorem dX4_run_10 : decode cX4_run 10 = .ok (.istore_n 1, 1) := by decide +kernel
theorem dX4_run_11 : decode cX4_run 11 = .ok (.iload_n 1, 1) := by decide +kernel
theorem dX4_run_12 : decode cX4_run 12 = .ok (.bipush 36, 2) := by decide +kernel
theorem dX4_run_14 : decode cX4_run 14 = .ok (.if_icmp .ge 70, 3) := by decide +kernel
theorem dX4_run_17 : decode cX4_run 17 = .ok (.aload_n 0, 1) := by decide +kernel
theorem dX4_run_18 : decode cX4_run 18 = .ok (.getfield 26, 3) := by decide +kernel
theorem dX4_run_21 : decode cX4_run 21 = .ok (.ifCond .le 63, 3) := by decide +kernel
theorem dX4_run_24 : decode cX4_run 24 = .ok (.aload_n 0, 1) := by decide +kernel
theorem dX4_run_25 : decode cX4_run 25 = .ok (.getfield 23, 3) := by decide +kernel
theorem dX4_run_28 : decode cX4_run 28 = .ok (.aload_n 0, 1) := by decide +kernel
theorem dX4_run_29 : decode cX4_run 29 = .ok (.getfield 26, 3) := by decide +kernel
theorem dX4_run_32 : decode cX4_run 32 = .ok (.iconst 1, 1) := by decide +kernel
theorem dX4_run_33 : decode cX4_run 33 = .ok (.isub, 1) := by decide +kernel
theorem dX4_run_34 : decode cX4_run 34 = .ok (.iaload, 1) := by decide +kernel
theorem dX4_run_35 : decode cX4_run 35 = .ok (.istore_n 2, 1) := by decide +kernel
theorem dX4_run_36 : decode cX4_run 36 = .ok (.aload_n 0, 1) := by decide +kernel
theorem dX4_run_37 : decode cX4_run 37 = .ok (.getfield 41, 3) := by decide +kernel
theorem dX4_run_40 : decode cX4_run 40 = .ok (.iload_n 2, 1) := by decide +kernel
theorem dX4_run_41 : decode cX4_run 41 = .ok (.aload_n 0, 1) := by decide +kernel
theorem dX4_run_42 : decode cX4_run 42 = .ok (.getfield 29, 3) := by decide +kernel
theorem dX4_run_45 : decode cX4_run 45 = .ok (.iload_n 2, 1) := by decide +kernel
theorem dX4_run_46 : decode cX4_run 46 = .ok (.iaload, 1) := by decide +kernel
theorem dX4_run_47 : decode cX4_run 47 = .ok (.invokevirtual 52, 3) := by decide +kernel
theorem dX4_run_50 : decode cX4_run 50 = .ok (.istore_n 3, 1) := by decide +kernel
theorem dX4_run_51 : decode cX4_run 51 = .ok (.iload_n 3, 1) := by decide +kernel
theorem dX4_run_52 : decode cX4_run 52 = .ok (.iconst (-1), 1) := by decide +kernel
theorem dX4_run_53 : decode cX4_run 53 = .ok (.if_icmp .ne 11, 3) := by decide +kernel
theorem dX4_run_56 : decode cX4_run 56 = .ok (.aload_n 0, 1) := by decide +kernel
theorem dX4_run_57 : decode cX4_run 57 = .ok (.iload_n 2, 1) := by decide +kernel
theorem dX4_run_58 : decode cX4_run 58 = .ok (.invokevirtual 58, 3) := by decide +kernel
theorem dX4_run_61 : decode cX4_run 61 = .ok (.goto 17, 3) := by decide +kernel
theorem dX4_run_64 : decode cX4_run 64 = .ok (.aload_n 0, 1) := by decide +kernel
theorem dX4_run_65 : decode cX4_run 65 = .ok (.getfield 29, 3) := by decide +kernel
theorem dX4_run_68 : decode cX4_run 68 = .ok (.iload_n 2, 1) := by decide +kernel
theorem dX4_run_69 : decode cX4_run 69 = .ok (.iload_n 3, 1) := by decide +kernel
theorem dX4_run_70 : decode cX4_run 70 = .ok (.iconst 1, 1) := by decide +kernel
theorem dX4_run_71 : decode cX4_run 71 = .ok (.iadd, 1) := by decide +kernel
theorem dX4_run_72 : decode cX4_run 72 = .ok (.iastore, 1) := by decide +kernel
theorem dX4_run_73 : decode cX4_run 73 = .ok (.aload_n 0, 1) := by decide +kernel
theorem dX4_run_74 : decode cX4_run 74 = .ok (.iload_n 3, 1) := by decide +kernel
theorem dX4_run_75 : decode cX4_run 75 = .ok (.invokevirtual 61, 3) := by decide +kernel
theorem dX4_run_78 : decode cX4_run 78 = .ok (.iinc 1 1, 3) := by decide +kernel
theorem dX4_run_81 : decode cX4_run 81 = .ok (.goto (-70), 3) := by decide +kernel
theorem dX4_run_84 : decode cX4_run 84 = .ok (.return_, 1) := by decide +kernel
theorem dX4_prepare_0 : decode cX4_prepare 0 = .ok (.aload_n 0, 1) := by decide +kernel
theorem dX4_prepare_1 : decode cX4_prepare 1 = .ok (.iconst 0, 1) := by decide +kernel
theorem dX4_prepare_2 : decode cX4_prepare 2 = .ok (.putfield 26, 3) := by decide +kernel
theorem dX4_prepare_5 : decode cX4_prepare 5 = .ok (.aload_n 0, 1) := by decide +kernel
theorem dX4_prepare_6 : decode cX4_prepare 6 = .ok (.iconst 0, 1) := by decide +kernel
theorem dX4_prepare_7 : decode cX4_prepare 7 = .ok (.putfield 19, 3) := by decide +kernel
theorem dX4_prepare_10 : decode cX4_prepare 10 = .ok (.iconst 0, 1) := by decide +kernel
theorem dX4_prepare_11 : decode cX4_prepare 11 = .ok (.istore_n 1, 1) := by decide +kernel
theorem dX4_prepare_12 : decode cX4_prepare 12 = .ok (.iload_n 1, 1) := by decide +kernel
theorem dX4_prepare_13 : decode cX4_prepare 13 = .ok (.bipush 12, 2) := by decide +kernel
theorem dX4_prepare_15 : decode cX4_prepare 15 = .ok (.if_icmp .ge 30, 3) := by decide +kernel
theorem dX4_prepare_18 : decode cX4_prepare 18 = .ok (.aload_n 0, 1) := by decide +kernel
theorem dX4_prepare_19 : decode cX4_prepare 19 = .ok (.getfield 29, 3) := by decide +kernel
theorem dX4_prepare_22 : decode cX4_prepare 22 = .ok (.iload_n 1, 1) := by decide +kernel
theorem dX4_prepare_23 : decode cX4_prepare 23 = .ok (.iconst 0, 1) := by decide +kernel
theorem dX4_prepare_24 : decode cX4_prepare 24 = .ok (.iastore, 1) := by decide +kernel
theorem dX4_prepare_25 : decode cX4_prepare 25 = .ok (.aload_n 0, 1) := by decide +kernel
theorem dX4_prepare_26 : decode cX4_prepare 26 = .ok (.getfield 32, 3) := by decide +kernel
theorem dX4_prepare_29 : decode cX4_prepare 29 = .ok (.iload_n 1, 1) := by decide +kernel
theorem dX4_prepare_30 : decode cX4_prepare 30 = .ok (.iconst 0, 1) := by decide +kernel
theorem dX4_prepare_31 : decode cX4_prepare 31 = .ok (.bastore, 1) := by decide +kernel
theorem dX4_prepare_32 : decode cX4_prepare 32 = .ok (.aload_n 0, 1) := by decide +kernel
theorem dX4_prepare_33 : decode cX4_prepare 33 = .ok (.getfield 35, 3) := by decide +kernel
theorem dX4_prepare_36 : decode cX4_prepare 36 = .ok (.iload_n 1, 1) := by decide +kernel
theorem dX4_prepare_37 : decode cX4_prepare 37 = .ok (.iconst 0, 1) := by decide +kernel
theorem dX4_prepare_38 : decode cX4_prepare 38 = .ok (.bastore, 1) := by decide +kernel
theorem dX4_prepare_39 : decode cX4_prepare 39 = .ok (.iinc 1 1, 3) := by decide +kernel
theorem dX4_prepare_42 : decode cX4_prepare 42 = .ok (.goto (-30), 3) := by decide +kernel
theorem dX4_prepare_45 : decode cX4_prepare 45 = .ok (.iconst 0, 1) := by decide +kernel
theorem dX4_prepare_46 : decode cX4_prepare 46 = .ok (.istore_n 1, 1) := by decide +kernel
theorem dX4_prepare_47 : decode cX4_prepare 47 = .ok (.iload_n 1, 1) := by decide +kernel
theorem dX4_prepare_48 : decode cX4_prepare 48 = .ok (.bipush 24, 2) := by decide +kernel
theorem dX4_prepare_50 : decode cX4_prepare 50 = .ok (.if_icmp .ge 16, 3) := by decide +kernel
theorem dX4_prepare_53 : decode cX4_prepare 53 = .ok (.aload_n 0, 1) := by decide +kernel
theorem dX4_prepare_54 : decode cX4_prepare 54 = .ok (.getfield 9, 3) := by decide +kernel
theorem dX4_prepare_57 : decode cX4_prepare 57 = .ok (.iload_n 1, 1) := by decide +kernel
theorem dX4_prepare_58 : decode cX4_prepare 58 = .ok (.iconst 0, 1) := by decide +kernel
theorem dX4_prepare_59 : decode cX4_prepare 59 = .ok (.bastore, 1) := by decide +kernel
theorem dX4_prepare_60 : decode cX4_prepare 60 = .ok (.iinc 1 1, 3) := by decide +kernel
theorem dX4_prepare_63 : decode cX4_prepare 63 = .ok (.goto (-16), 3) := by decide +kernel
theorem dX4_prepare_66 : decode cX4_prepare 66 = .ok (.return_, 1) := by decide +kernel
theorem dX4_enter_0 : decode cX4_enter 0 = .ok (.aload_n 0, 1) := by decide +kernel
theorem dX4_enter_1 : decode cX4_enter 1 = .ok (.getfield 32, 3) := by decide +kernel
theorem dX4_enter_4 : decode cX4_enter 4 = .ok (.iload_n 1, 1) := by decide +kernel
theorem dX4_enter_5 : decode cX4_enter 5 = .ok (.iconst 1, 1) := by decide +kernel
theorem dX4_enter_6 : decode cX4_enter 6 = .ok (.bastore, 1) := by decide +kernel
theorem dX4_enter_7 : decode cX4_enter 7 = .ok (.aload_n 0, 1) := by decide +kernel
theorem dX4_enter_8 : decode cX4_enter 8 = .ok (.getfield 35, 3) := by decide +kernel
theorem dX4_enter_11 : decode cX4_enter 11 = .ok (.iload_n 1, 1) := by decide +kernel
theorem dX4_enter_12 : decode cX4_enter 12 = .ok (.iconst 1, 1) := by decide +kernel
theorem dX4_enter_13 : decode cX4_enter 13 = .ok (.bastore, 1) := by decide +kernel
theorem dX4_enter_14 : decode cX4_enter 14 = .ok (.aload_n 0, 1) := by decide +kernel
theorem dX4_enter_15 : decode cX4_enter 15 = .ok (.getfield 23, 3) := by decide +kernel
theorem dX4_enter_18 : decode cX4_enter 18 = .ok (.aload_n 0, 1) := by decide +kernel
theorem dX4_enter_19 : decode cX4_enter 19 = .ok (.getfield 26, 3) := by decide +kernel
theorem dX4_enter_22 : decode cX4_enter 22 = .ok (.iload_n 1, 1) := by decide +kernel
theorem dX4_enter_23 : decode cX4_enter 23 = .ok (.iastore, 1) := by decide +kernel
theorem dX4_enter_24 : decode cX4_enter 24 = .ok (.aload_n 0, 1) := by decide +kernel
theorem dX4_enter_25 : decode cX4_enter 25 = .ok (.dup, 1) := by decide +kernel
theorem dX4_enter_26 : decode cX4_enter 26 = .ok (.getfield 26, 3) := by decide +kernel
theorem dX4_enter_29 : decode cX4_enter 29 = .ok (.iconst 1, 1) := by decide +kernel
theorem dX4_enter_30 : decode cX4_enter 30 = .ok (.iadd, 1) := by decide +kernel
theorem dX4_enter_31 : decode cX4_enter 31 = .ok (.putfield 26, 3) := by decide +kernel
theorem dX4_enter_34 : decode cX4_enter 34 = .ok (.return_, 1) := by decide +kernel
theorem dX4_leave_0 : decode cX4_leave 0 = .ok (.aload_n 0, 1) := by decide +kernel
theorem dX4_leave_1 : decode cX4_leave 1 = .ok (.getfield 35, 3) := by decide +kernel
theorem dX4_leave_4 : decode cX4_leave 4 = .ok (.iload_n 1, 1) := by decide +kernel
theorem dX4_leave_5 : decode cX4_leave 5 = .ok (.iconst 0, 1) := by decide +kernel
theorem dX4_leave_6 : decode cX4_leave 6 = .ok (.bastore, 1) := by decide +kernel
theorem dX4_leave_7 : decode cX4_leave 7 = .ok (.aload_n 0, 1) := by decide +kernel
theorem dX4_leave_8 : decode cX4_leave 8 = .ok (.dup, 1) := by decide +kernel
theorem dX4_leave_9 : decode cX4_leave 9 = .ok (.getfield 26, 3) := by decide +kernel
theorem dX4_leave_12 : decode cX4_leave 12 = .ok (.iconst 1, 1) := by decide +kernel
theorem dX4_leave_13 : decode cX4_leave 13 = .ok (.isub, 1) := by decide +kernel
theorem dX4_leave_14 : decode cX4_leave 14 = .ok (.putfield 26, 3) := by decide +kernel
theorem dX4_leave_17 : decode cX4_leave 17 = .ok (.aload_n 0, 1) := by decide +kernel
theorem dX4_leave_18 : decode cX4_leave 18 = .ok (.getfield 19, 3) := by decide +kernel
theorem dX4_leave_21 : decode cX4_leave 21 = .ok (.bipush 12, 2) := by decide +kernel
theorem dX4_leave_23 : decode cX4_leave 23 = .ok (.if_icmp .ge 23, 3) := by decide +kernel
theorem dX4_leave_26 : decode cX4_leave 26 = .ok (.aload_n 0, 1) := by decide +kernel
theorem dX4_leave_27 : decode cX4_leave 27 = .ok (.getfield 15, 3) := by decide +kernel
theorem dX4_leave_30 : decode cX4_leave 30 = .ok (.aload_n 0, 1) := by decide +kernel
theorem dX4_leave_31 : decode cX4_leave 31 = .ok (.getfield 19, 3) := by decide +kernel
theorem dX4_leave_34 : decode cX4_leave 34 = .ok (.iload_n 1, 1) := by decide +kernel
theorem dX4_leave_35 : decode cX4_leave 35 = .ok (.iastore, 1) := by decide +kernel
theorem dX4_leave_36 : decode cX4_leave 36 = .ok (.aload_n 0, 1) := by decide +kernel
theorem dX4_leave_37 : decode cX4_leave 37 = .ok (.dup, 1) := by decide +kernel
theorem dX4_leave_38 : decode cX4_leave 38 = .ok (.getfield 19, 3) := by decide +kernel
theorem dX4_leave_41 : decode cX4_leave 41 = .ok (.iconst 1, 1) := by decide +kernel
theorem dX4_leave_42 : decode cX4_leave 42 = .ok (.iadd, 1) := by decide +kernel
theorem dX4_leave_43 : decode cX4_leave 43 = .ok (.putfield 19, 3) := by decide +kernel
theorem dX4_leave_46 : decode cX4_leave 46 = .ok (.return_, 1) := by decide +kernel
theorem dX4_follow_0 : decode cX4_follow 0 = .ok (.aload_n 0, 1) := by decide +kernel
theorem dX4_follow_1 : decode cX4_follow 1 = .ok (.getfield 41, 3) := by decide +kernel
theorem dX4_follow_4 : decode cX4_follow 4 = .ok (.getfield 64, 3) := by decide +kernel
theorem dX4_follow_7 : decode cX4_follow 7 = .ok (.iload_n 1, 1) := by decide +kernel
theorem dX4_follow_8 : decode cX4_follow 8 = .ok (.iaload, 1) := by decide +kernel
theorem dX4_follow_9 : decode cX4_follow 9 = .ok (.istore_n 2, 1) := by decide +kernel
theorem dX4_follow_10 : decode cX4_follow 10 = .ok (.aload_n 0, 1) := by decide +kernel
theorem dX4_follow_11 : decode cX4_follow 11 = .ok (.getfield 35, 3) := by decide +kernel
theorem dX4_follow_14 : decode cX4_follow 14 = .ok (.iload_n 2, 1) := by decide +kernel
theorem dX4_follow_15 : decode cX4_follow 15 = .ok (.baload, 1) := by decide +kernel
theorem dX4_follow_16 : decode cX4_follow 16 = .ok (.ifCond .eq 13, 3) := by decide +kernel
theorem dX4_follow_19 : decode cX4_follow 19 = .ok (.aload_n 0, 1) := by decide +kernel
theorem dX4_follow_20 : decode cX4_follow 20 = .ok (.getfield 9, 3) := by decide +kernel
theorem dX4_follow_23 : decode cX4_follow 23 = .ok (.iload_n 1, 1) := by decide +kernel
theorem dX4_follow_24 : decode cX4_follow 24 = .ok (.iconst 1, 1) := by decide +kernel
theorem dX4_follow_25 : decode cX4_follow 25 = .ok (.bastore, 1) := by decide +kernel
theorem dX4_follow_26 : decode cX4_follow 26 = .ok (.goto 26, 3) := by decide +kernel
theorem dX4_follow_29 : decode cX4_follow 29 = .ok (.aload_n 0, 1) := by decide +kernel
theorem dX4_follow_30 : decode cX4_follow 30 = .ok (.getfield 32, 3) := by decide +kernel
theorem dX4_follow_33 : decode cX4_follow 33 = .ok (.iload_n 2, 1) := by decide +kernel
theorem dX4_follow_34 : decode cX4_follow 34 = .ok (.baload, 1) := by decide +kernel
theorem dX4_follow_35 : decode cX4_follow 35 = .ok (.ifCond .ne 17, 3) := by decide +kernel
theorem dX4_follow_38 : decode cX4_follow 38 = .ok (.aload_n 0, 1) := by decide +kernel
theorem dX4_follow_39 : decode cX4_follow 39 = .ok (.getfield 26, 3) := by decide +kernel
theorem dX4_follow_42 : decode cX4_follow 42 = .ok (.bipush 12, 2) := by decide +kernel
theorem dX4_follow_44 : decode cX4_follow 44 = .ok (.if_icmp .ge 8, 3) := by decide +kernel
theorem dX4_follow_47 : decode cX4_follow 47 = .ok (.aload_n 0, 1) := by decide +kernel
theorem dX4_follow_48 : decode cX4_follow 48 = .ok (.iload_n 2, 1) := by decide +kernel
theorem dX4_follow_49 : decode cX4_follow 49 = .ok (.invokevirtual 48, 3) := by decide +kernel
theorem dX4_follow_52 : decode cX4_follow 52 = .ok (.return_, 1) := by decide +kernel
theorem dX4_allNodesReached_0 : decode cX4_allNodesReached 0 = .ok (.aload_n 0, 1) := by decide +kernel
theorem dX4_allNodesReached_1 : decode cX4_allNodesReached 1 = .ok (.getfield 19, 3) := by decide +kernel
theorem dX4_allNodesReached_4 : decode cX4_allNodesReached 4 = .ok (.aload_n 0, 1) := by decide +kernel
theorem dX4_allNodesReached_5 : decode cX4_allNodesReached 5 = .ok (.getfield 41, 3) := by decide +kernel
theorem dX4_allNodesReached_8 : decode cX4_allNodesReached 8 = .ok (.getfield 67, 3) := by decide +kernel
theorem dX4_allNodesReached_11 : decode cX4_allNodesReached 11 = .ok (.if_icmp .ne 7, 3) := by decide +kernel
theorem dX4_allNodesReached_14 : decode cX4_allNodesReached 14 = .ok (.iconst 1, 1) := by decide +kernel
theorem dX4_allNodesReached_15 : decode cX4_allNodesReached 15 = .ok (.goto 4, 3) := by decide +kernel
theorem dX4_allNodesReached_18 : decode cX4_allNodesReached 18 = .ok (.iconst 0, 1) := by decide +kernel
theorem dX4_allNodesReached_19 : decode cX4_allNodesReached 19 = .ok (.ireturn, 1) := by decide +kernel
theorem dX4_exitReachedFromAllNodes_0 : decode cX4_exitReachedFromAllNodes 0 = .ok (.iconst 0, 1) := by decide +kernel
theorem dX4_exitReachedFromAllNodes_1 : decode cX4_exitReachedFromAllNodes 1 = .ok (.istore_n 1, 1) := by decide +kernel
theorem dX4_exitReachedFromAllNodes_2 : decode cX4_exitReachedFromAllNodes 2 = .ok (.iload_n 1, 1) := by decide +kernel
theorem dX4_exitReachedFromAllNodes_3 : decode cX4_exitReachedFromAllNodes 3 = .ok (.aload_n 0, 1) := by decide +kernel
theorem dX4_exitReachedFromAllNodes_4 : decode cX4_exitReachedFromAllNodes 4 = .ok (.getfield 41, 3) := by decide +kernel
theorem dX4_exitReachedFromAllNodes_7 : decode cX4_exitReachedFromAllNodes 7 = .ok (.getfield 67, 3) := by decide +kernel
theorem dX4_exitReachedFromAllNodes_10 : decode cX4_exitReachedFromAllNodes 10 = .ok (.if_icmp .ge 31, 3) := by decide +kernel
theorem dX4_exitReachedFromAllNodes_13 : decode cX4_exitReachedFromAllNodes 13 = .ok (.aload_n 0, 1) := by decide +kernel
theorem dX4_exitReachedFromAllNodes_14 : decode cX4_exitReachedFromAllNodes 14 = .ok (.getfield 38, 3) := by decide +kernel
theorem dX4_exitReachedFromAllNodes_17 : decode cX4_exitReachedFromAllNodes 17 = .ok (.iload_n 1, 1) := by decide +kernel
theorem dX4_exitReachedFromAllNodes_18 : decode cX4_exitReachedFromAllNodes 18 = .ok (.iload_n 1, 1) := by decide +kernel
theorem dX4_exitReachedFromAllNodes_19 : decode cX4_exitReachedFromAllNodes 19 = .ok (.aload_n 0, 1) := by decide +kernel
theorem dX4_exitReachedFromAllNodes_20 : decode cX4_exitReachedFromAllNodes 20 = .ok (.getfield 41, 3) := by decide +kernel
theorem dX4_exitReachedFromAllNodes_23 : decode cX4_exitReachedFromAllNodes 23 = .ok (.invokevirtual 70, 3) := by decide +kernel
theorem dX4_exitReachedFromAllNodes_26 : decode cX4_exitReachedFromAllNodes 26 = .ok (.if_icmp .ne 7, 3) := by decide +kernel
theorem dX4_exitReachedFromAllNodes_29 : decode cX4_exitReachedFromAllNodes 29 = .ok (.iconst 1, 1) := by decide +kernel
theorem dX4_exitReachedFromAllNodes_30 : decode cX4_exitReachedFromAllNodes 30 = .ok (.goto 4, 3) := by decide +kernel
theorem dX4_exitReachedFromAllNodes_33 : decode cX4_exitReachedFromAllNodes 33 = .ok (.iconst 0, 1) := by decide +kernel
theorem dX4_exitReachedFromAllNodes_34 : decode cX4_exitReachedFromAllNodes 34 = .ok (.bastore, 1) := by decide +kernel
theorem dX4_exitReachedFromAllNodes_35 : decode cX4_exitReachedFromAllNodes 35 = .ok (.iinc 1 1, 3) := by decide +kernel
theorem dX4_exitReachedFromAllNodes_38 : decode cX4_exitReachedFromAllNodes 38 = .ok (.goto (-36), 3) := by decide +kernel
theorem dX4_exitReachedFromAllNodes_41 : decode cX4_exitReachedFromAllNodes 41 = .ok (.iconst 1, 1) := by decide +kernel
theorem dX4_exitReachedFromAllNodes_42 : decode cX4_exitReachedFromAllNodes 42 = .ok (.istore_n 1, 1) := by decide +kernel
theorem dX4_exitReachedFromAllNodes_43 : decode cX4_exitReachedFromAllNodes 43 = .ok (.iload_n 1, 1) := by decide +kernel
theorem dX4_exitReachedFromAllNodes_44 : decode cX4_exitReachedFromAllNodes 44 = .ok (.aload_n 0, 1) := by decide +kernel
theorem dX4_exitReachedFromAllNodes_45 : decode cX4_exitReachedFromAllNodes 45 = .ok (.getfield 41, 3) := by decide +kernel
theorem dX4_exitReachedFromAllNodes_48 : decode cX4_exitReachedFromAllNodes 48 = .ok (.getfield 67, 3) := by decide +kernel
theorem dX4_exitReachedFromAllNodes_51 : decode cX4_exitReachedFromAllNodes 51 = .ok (.if_icmp .ge 13, 3) := by decide +kernel
theorem dX4_exitReachedFromAllNodes_54 : decode cX4_exitReachedFromAllNodes 54 = .ok (.aload_n 0, 1) := by decide +kernel
theorem dX4_exitReachedFromAllNodes_55 : decode cX4_exitReachedFromAllNodes 55 = .ok (.invokevirtual 74, 3) := by decide +kernel
theorem dX4_exitReachedFromAllNodes_58 : decode cX4_exitReachedFromAllNodes 58 = .ok (.iinc 1 1, 3) := by decide +kernel
theorem dX4_exitReachedFromAllNodes_61 : decode cX4_exitReachedFromAllNodes 61 = .ok (.goto (-18), 3) := by decide +kernel
theorem dX4_exitReachedFromAllNodes_64 : decode cX4_exitReachedFromAllNodes 64 = .ok (.iconst 0, 1) := by decide +kernel
theorem dX4_exitReachedFromAllNodes_65 : decode cX4_exitReachedFromAllNodes 65 = .ok (.istore_n 1, 1) := by decide +kernel
theorem dX4_exitReachedFromAllNodes_66 : decode cX4_exitReachedFromAllNodes 66 = .ok (.iload_n 1, 1) := by decide +kernel
theorem dX4_exitReachedFromAllNodes_67 : decode cX4_exitReachedFromAllNodes 67 = .ok (.aload_n 0, 1) := by decide +kernel
theorem dX4_exitReachedFromAllNodes_68 : decode cX4_exitReachedFromAllNodes 68 = .ok (.getfield 41, 3) := by decide +kernel
theorem dX4_exitReachedFromAllNodes_71 : decode cX4_exitReachedFromAllNodes 71 = .ok (.getfield 67, 3) := by decide +kernel
theorem dX4_exitReachedFromAllNodes_74 : decode cX4_exitReachedFromAllNodes 74 = .ok (.if_icmp .ge 20, 3) := by decide +kernel
theorem dX4_exitReachedFromAllNodes_77 : decode cX4_exitReachedFromAllNodes 77 = .ok (.aload_n 0, 1) := by decide +kernel
theorem dX4_exitReachedFromAllNodes_78 : decode cX4_exitReachedFromAllNodes 78 = .ok (.getfield 38, 3) := by decide +kernel
theorem dX4_exitReachedFromAllNodes_81 : decode cX4_exitReachedFromAllNodes 81 = .ok (.iload_n 1, 1) := by decide +kernel
theorem dX4_exitReachedFromAllNodes_82 : decode cX4_exitReachedFromAllNodes 82 = .ok (.baload, 1) := by decide +kernel
theorem dX4_exitReachedFromAllNodes_83 : decode cX4_exitReachedFromAllNodes 83 = .ok (.ifCond .ne 5, 3) := by decide +kernel
theorem dX4_exitReachedFromAllNodes_86 : decode cX4_exitReachedFromAllNodes 86 = .ok (.iconst 0, 1) := by decide +kernel
theorem dX4_exitReachedFromAllNodes_87 : decode cX4_exitReachedFromAllNodes 87 = .ok (.ireturn, 1) := by decide +kernel
theorem dX4_exitReachedFromAllNodes_88 : decode cX4_exitReachedFromAllNodes 88 = .ok (.iinc 1 1, 3) := by decide +kernel
theorem dX4_exitReachedFromAllNodes_91 : decode cX4_exitReachedFromAllNodes 91 = .ok (.goto (-25), 3) := by decide +kernel
theorem dX4_exitReachedFromAllNodes_94 : decode cX4_exitReachedFromAllNodes 94 = .ok (.iconst 1, 1) := by decide +kernel
theorem dX4_exitReachedFromAllNodes_95 : decode cX4_exitReachedFromAllNodes 95 = .ok (.ireturn, 1) := by decide +kernel
theorem dX4_spreadLeadsToExit_0 : decode cX4_spreadLeadsToExit 0 = .ok (.iconst 0, 1) := by decide +kernel
theorem dX4_spreadLeadsToExit_1 : decode cX4_spreadLeadsToExit 1 = .ok (.istore_n 1, 1) := by decide +kernel
theorem dX4_spreadLeadsToExit_2 : decode cX4_spreadLeadsToExit 2 = .ok (.iload_n 1, 1) := by decide +kernel
theorem dX4_spreadLeadsToExit_3 : decode cX4_spreadLeadsToExit 3 = .ok (.aload_n 0, 1) := by decide +kernel
theorem dX4_spreadLeadsToExit_4 : decode cX4_spreadLeadsToExit 4 = .ok (.getfield 41, 3) := by decide +kernel
theorem dX4_spreadLeadsToExit_7 : decode cX4_spreadLeadsToExit 7 = .ok (.getfield 77, 3) := by decide +kernel
theorem dX4_spreadLeadsToExit_10 : decode cX4_spreadLeadsToExit 10 = .ok (.if_icmp .ge 41, 3) := by decide +kernel
theorem dX4_spreadLeadsToExit_13 : decode cX4_spreadLeadsToExit 13 = .ok (.aload_n 0, 1) := by decide +kernel
theorem dX4_spreadLeadsToExit_14 : decode cX4_spreadLeadsToExit 14 = .ok (.getfield 38, 3) := by decide +kernel
theorem dX4_spreadLeadsToExit_17 : decode cX4_spreadLeadsToExit 17 = .ok (.aload_n 0, 1) := by decide +kernel
theorem dX4_spreadLeadsToExit_18 : decode cX4_spreadLeadsToExit 18 = .ok (.getfield 41, 3) := by decide +kernel
theorem dX4_spreadLeadsToExit_21 : decode cX4_spreadLeadsToExit 21 = .ok (.getfield 64, 3) := by decide +kernel
theorem dX4_spreadLeadsToExit_24 : decode cX4_spreadLeadsToExit 24 = .ok (.iload_n 1, 1) := by decide +kernel
theorem dX4_spreadLeadsToExit_25 : decode cX4_spreadLeadsToExit 25 = .ok (.iaload, 1) := by decide +kernel
theorem dX4_spreadLeadsToExit_26 : decode cX4_spreadLeadsToExit 26 = .ok (.baload, 1) := by decide +kernel
theorem dX4_spreadLeadsToExit_27 : decode cX4_spreadLeadsToExit 27 = .ok (.ifCond .eq 18, 3) := by decide +kernel
theorem dX4_spreadLeadsToExit_30 : decode cX4_spreadLeadsToExit 30 = .ok (.aload_n 0, 1) := by decide +kernel
theorem dX4_spreadLeadsToExit_31 : decode cX4_spreadLeadsToExit 31 = .ok (.getfield 38, 3) := by decide +kernel
theorem dX4_spreadLeadsToExit_34 : decode cX4_spreadLeadsToExit 34 = .ok (.aload_n 0, 1) := by decide +kernel
theorem dX4_spreadLeadsToExit_35 : decode cX4_spreadLeadsToExit 35 = .ok (.getfield 41, 3) := by decide +kernel
theorem dX4_spreadLeadsToExit_38 : decode cX4_spreadLeadsToExit 38 = .ok (.getfield 80, 3) := by decide +kernel
theorem dX4_spreadLeadsToExit_41 : decode cX4_spreadLeadsToExit 41 = .ok (.iload_n 1, 1) := by decide +kernel
theorem dX4_spreadLeadsToExit_42 : decode cX4_spreadLeadsToExit 42 = .ok (.iaload, 1) := by decide +kernel
theorem dX4_spreadLeadsToExit_43 : decode cX4_spreadLeadsToExit 43 = .ok (.iconst 1, 1) := by decide +kernel
theorem dX4_spreadLeadsToExit_44 : decode cX4_spreadLeadsToExit 44 = .ok (.bastore, 1) := by decide +kernel
theorem dX4_spreadLeadsToExit_45 : decode cX4_spreadLeadsToExit 45 = .ok (.iinc 1 1, 3) := by decide +kernel
theorem dX4_spreadLeadsToExit_48 : decode cX4_spreadLeadsToExit 48 = .ok (.goto (-46), 3) := by decide +kernel
theorem dX4_spreadLeadsToExit_51 : decode cX4_spreadLeadsToExit 51 = .ok (.return_, 1) := by decide +kernel
theorem dX5_init_0 : decode cX5_init 0 = .ok (.aload_n 0, 1) := by decide +kernel
theorem dX5_init_1 : decode cX5_init 1 = .ok (.invokespecial 3, 3) := by decide +kernel
theorem dX5_init_4 : decode cX5_init 4 = .ok (.aload_n 0, 1) := by decide +kernel
theorem dX5_init_5 : decode cX5_init 5 = .ok (.bipush 60, 2) := by decide +kernel
theorem dX5_init_7 : decode cX5_init 7 = .ok (.newarray .int, 2) := by decide +kernel
theorem dX5_init_9 : decode cX5_init 9 = .ok (.putfield 9, 3) := by decide +kernel
theorem dX5_init_12 : decode cX5_init 12 = .ok (.aload_n 0, 1) := by decide +kernel
theorem dX5_init_13 : decode cX5_init 13 = .ok (.iconst 0, 1) := by decide +kernel
theorem dX5_init_14 : decode cX5_init 14 = .ok (.putfield 15, 3) := by decide +kernel
theorem dX5_init_17 : decode cX5_init 17 = .ok (.return_, 1) := by decide +kernel
theorem dX5_isFull_0 : decode cX5_isFull 0 = .ok (.aload_n 0, 1) := by decide +kernel
theorem dX5_isFull_1 : decode cX5_isFull 1 = .ok (.getfield 15, 3) := by decide +kernel
theorem dX5_isFull_4 : decode cX5_isFull 4 = .ok (.bipush 60, 2) := by decide +kernel
theorem dX5_isFull_6 : decode cX5_isFull 6 = .ok (.if_icmp .lt 7, 3) := by decide +kernel
theorem dX5_isFull_9 : decode cX5_isFull 9 = .ok (.iconst 1, 1) := by decide +kernel
theorem dX5_isFull_10 : decode cX5_isFull 10 = .ok (.goto 4, 3) := by decide +kernel
theorem dX5_isFull_13 : decode cX5_isFull 13 = .ok (.iconst 0, 1) := by decide +kernel
theorem dX5_isFull_14 : decode cX5_isFull 14 = .ok (.ireturn, 1) := by decide +kernel
theorem dX5_add_0 : decode cX5_add 0 = .ok (.aload_n 0, 1) := by decide +kernel
theorem dX5_add_1 : decode cX5_add 1 = .ok (.getfield 9, 3) := by decide +kernel
theorem dX5_add_4 : decode cX5_add 4 = .ok (.aload_n 0, 1) := by decide +kernel
theorem dX5_add_5 : decode cX5_add 5 = .ok (.getfield 15, 3) := by decide +kernel
theorem dX5_add_8 : decode cX5_add 8 = .ok (.iload_n 1, 1) := by decide +kernel
theorem dX5_add_9 : decode cX5_add 9 = .ok (.iastore, 1) := by decide +kernel
theorem dX5_add_10 : decode cX5_add 10 = .ok (.aload_n 0, 1) := by decide +kernel
theorem dX5_add_11 : decode cX5_add 11 = .ok (.dup, 1) := by decide +kernel
theorem dX5_add_12 : decode cX5_add 12 = .ok (.getfield 15, 3) := by decide +kernel
theorem dX5_add_15 : decode cX5_add 15 = .ok (.iconst 1, 1) := by decide +kernel
theorem dX5_add_16 : decode cX5_add 16 = .ok (.iadd, 1) := by decide +kernel
theorem dX5_add_17 : decode cX5_add 17 = .ok (.putfield 15, 3) := by decide +kernel
theorem dX5_add_20 : decode cX5_add 20 = .ok (.return_, 1) := by decide +kernel
theorem dX5_nodeAt_0 : decode cX5_nodeAt 0 = .ok (.aload_n 0, 1) := by decide +kernel
theorem dX5_nodeAt_1 : decode cX5_nodeAt 1 = .ok (.getfield 9, 3) := by decide +kernel
theorem dX5_nodeAt_4 : decode cX5_nodeAt 4 = .ok (.iload_n 1, 1) := by decide +kernel
theorem dX5_nodeAt_5 : decode cX5_nodeAt 5 = .ok (.iaload, 1) := by decide +kernel
theorem dX5_nodeAt_6 : decode cX5_nodeAt 6 = .ok (.bipush 97, 2) := by decide +kernel
theorem dX5_nodeAt_8 : decode cX5_nodeAt 8 = .ok (.isub, 1) := by decide +kernel
theorem dX5_nodeAt_9 : decode cX5_nodeAt 9 = .ok (.ireturn, 1) := by decide +kernel
theorem dX6_init_0 : decode cX6_init 0 = .ok (.aload_n 0, 1) := by decide +kernel
theorem dX6_init_1 : decode cX6_init 1 = .ok (.invokespecial 3, 3) := by decide +kernel
theorem dX6_init_4 : decode cX6_init 4 = .ok (.aload_n 0, 1) := by decide +kernel
theorem dX6_init_5 : decode cX6_init 5 = .ok (.bipush 72, 2) := by decide +kernel
theorem dX6_init_7 : decode cX6_init 7 = .ok (.newarray .int, 2) := by decide +kernel
theorem dX6_init_9 : decode cX6_init 9 = .ok (.putfield 9, 3) := by decide +kernel
theorem dX6_init_12 : decode cX6_init 12 = .ok (.aload_n 0, 1) := by decide +kernel
theorem dX6_init_13 : decode cX6_init 13 = .ok (.iconst 0, 1) := by decide +kernel
theorem dX6_init_14 : decode cX6_init 14 = .ok (.putfield 15, 3) := by decide +kernel
theorem dX6_init_17 : decode cX6_init 17 = .ok (.aload_n 0, 1) := by decide +kernel
theorem dX6_init_18 : decode cX6_init 18 = .ok (.iconst 0, 1) := by decide +kernel
theorem dX6_init_19 : decode cX6_init 19 = .ok (.putfield 19, 3) := by decide +kernel
theorem dX6_init_22 : decode cX6_init 22 = .ok (.aload_n 0, 1) := by decide +kernel
theorem dX6_init_23 : decode cX6_init 23 = .ok (.bipush 72, 2) := by decide +kernel
theorem dX6_init_25 : decode cX6_init 25 = .ok (.newarray .int, 2) := by decide +kernel
theorem dX6_init_27 : decode cX6_init 27 = .ok (.putfield 22, 3) := by decide +kernel
theorem dX6_init_30 : decode cX6_init 30 = .ok (.aload_n 0, 1) := by decide +kernel
theorem dX6_init_31 : decode cX6_init 31 = .ok (.iconst 0, 1) := by decide +kernel
theorem dX6_init_32 : decode cX6_init 32 = .ok (.putfield 25, 3) := by decide +kernel
theorem dX6_init_35 : decode cX6_init 35 = .ok (.aload_n 0, 1) := by decide +kernel
theorem dX6_init_36 : decode cX6_init 36 = .ok (.bipush 12, 2) := by decide +kernel
theorem dX6_init_38 : decode cX6_init 38 = .ok (.newarray .int, 2) := by decide +kernel
theorem dX6_init_40 : decode cX6_init 40 = .ok (.putfield 28, 3) := by decide +kernel
theorem dX6_init_43 : decode cX6_init 43 = .ok (.aload_n 0, 1) := by decide +kernel
theorem dX6_init_44 : decode cX6_init 44 = .ok (.bipush 12, 2) := by decide +kernel
theorem dX6_init_46 : decode cX6_init 46 = .ok (.newarray .int, 2) := by decide +kernel
theorem dX6_init_48 : decode cX6_init 48 = .ok (.putfield 31, 3) := by decide +kernel
theorem dX6_init_51 : decode cX6_init 51 = .ok (.aload_n 0, 1) := by decide +kernel
theorem dX6_init_52 : decode cX6_init 52 = .ok (.aload_n 1, 1) := by decide +kernel
theorem dX6_init_53 : decode cX6_init 53 = .ok (.putfield 34, 3) := by decide +kernel
theorem dX6_init_56 : decode cX6_init 56 = .ok (.aload_n 0, 1) := by decide +kernel
theorem dX6_init_57 : decode cX6_init 57 = .ok (.aload_n 2, 1) := by decide +kernel
theorem dX6_init_58 : decode cX6_init 58 = .ok (.putfield 38, 3) := by decide +kernel
theorem dX6_init_61 : decode cX6_init 61 = .ok (.return_, 1) := by decide +kernel
theorem dX6_build_0 : decode cX6_build 0 = .ok (.aload_n 0, 1) := by decide +kernel
theorem dX6_build_1 : decode cX6_build 1 = .ok (.invokevirtual 42, 3) := by decide +kernel
theorem dX6_build_4 : decode cX6_build 4 = .ok (.aload_n 0, 1) := by decide +kernel
theorem dX6_build_5 : decode cX6_build 5 = .ok (.invokevirtual 45, 3) := by decide +kernel
theorem dX6_build_8 : decode cX6_build 8 = .ok (.iconst 0, 1) := by decide +kernel
theorem dX6_build_9 : decode cX6_build 9 = .ok (.istore_n 1, 1) := by decide +kernel
theorem dX6_build_10 : decode cX6_build 10 = .ok (.iload_n 1, 1) := by decide +kernel
theorem dX6_build_11 : decode cX6_build 11 = .ok (.aload_n 0, 1) := by decide +kernel
theorem dX6_build_12 : decode cX6_build 12 = .ok (.getfield 25, 3) := by decide +kernel
theorem dX6_build_15 : decode cX6_build 15 = .ok (.if_icmp .ge 19, 3) := by decide +kernel
theorem dX6_build_18 : decode cX6_build 18 = .ok (.aload_n 0, 1) := by decide +kernel
theorem dX6_build_19 : decode cX6_build 19 = .ok (.aload_n 0, 1) := by decide +kernel
theorem dX6_build_20 : decode cX6_build 20 = .ok (.getfield 22, 3) := by decide +kernel
theorem dX6_build_23 : decode cX6_build 23 = .ok (.iload_n 1, 1) := by decide +kernel
theorem dX6_build_24 : decode cX6_build 24 = .ok (.iaload, 1) := by decide +kernel
theorem dX6_build_25 : decode cX6_build 25 = .ok (.invokevirtual 48, 3) := by decide +kernel
theorem dX6_build_28 : decode cX6_build 28 = .ok (.iinc 1 1, 3) := by decide +kernel
theorem dX6_build_31 : decode cX6_build 31 = .ok (.goto (-21), 3) := by decide +kernel
theorem dX6_build_34 : decode cX6_build 34 = .ok (.aload_n 0, 1) := by decide +kernel
theorem dX6_build_35 : decode cX6_build 35 = .ok (.invokevirtual 52, 3) := by decide +kernel
theorem dX6_build_38 : decode cX6_build 38 = .ok (.return_, 1) := by decide +kernel
theorem dX6_weightOf_0 : decode cX6_weightOf 0 = .ok (.aload_n 0, 1) := by decide +kernel
theorem dX6_weightOf_1 : decode cX6_weightOf 1 = .ok (.getfield 34, 3) := by decide +kernel
theorem dX6_weightOf_4 : decode cX6_weightOf 4 = .ok (.getfield 55, 3) := by decide +kernel
theorem dX6_weightOf_7 : decode cX6_weightOf 7 = .ok (.iload_n 1, 1) := by decide +kernel
theorem dX6_weightOf_8 : decode cX6_weightOf 8 = .ok (.bipush 24, 2) := by decide +kernel
theorem dX6_weightOf_10 : decode cX6_weightOf 10 = .ok (.irem, 1) := by decide +kernel
theorem dX6_weightOf_11 : decode cX6_weightOf 11 = .ok (.iaload, 1) := by decide +kernel
theorem dX6_weightOf_12 : decode cX6_weightOf 12 = .ok (.ireturn, 1) := by decide +kernel
theorem dX6_sortLinks_0 : decode cX6_sortLinks 0 = .ok (.aload_n 0, 1) := by decide +kernel
theorem dX6_sortLinks_1 : decode cX6_sortLinks 1 = .ok (.iconst 0, 1) := by decide +kernel
theorem dX6_sortLinks_2 : decode cX6_sortLinks 2 = .ok (.putfield 25, 3) := by decide +kernel
theorem dX6_sortLinks_5 : decode cX6_sortLinks 5 = .ok (.iconst 0, 1) := by decide +kernel
theorem dX6_sortLinks_6 : decode cX6_sortLinks 6 = .ok (.istore_n 1, 1) := by decide +kernel
theorem dX6_sortLinks_7 : decode cX6_sortLinks 7 = .ok (.iload_n 1, 1) := by decide +kernel
theorem dX6_sortLinks_8 : decode cX6_sortLinks 8 = .ok (.bipush 72, 2) := by decide +kernel
theorem dX6_sortLinks_10 : decode cX6_sortLinks 10 = .ok (.if_icmp .ge 27, 3) := by decide +kernel
theorem dX6_sortLinks_13 : decode cX6_sortLinks 13 = .ok (.aload_n 0, 1) := by decide +kernel
theorem dX6_sortLinks_14 : decode cX6_sortLinks 14 = .ok (.getfield 38, 3) := by decide +kernel
theorem dX6_sortLinks_17 : decode cX6_sortLinks 17 = .ok (.getfield 60, 3) := by decide +kernel
theorem dX6_sortLinks_20 : decode cX6_sortLinks 20 = .ok (.iload_n 1, 1) := by decide +kernel
theorem dX6_sortLinks_21 : decode cX6_sortLinks 21 = .ok (.iaload, 1) := by decide +kernel
theorem dX6_sortLinks_22 : decode cX6_sortLinks 22 = .ok (.iconst (-1), 1) := by decide +kernel
theorem dX6_sortLinks_23 : decode cX6_sortLinks 23 = .ok (.if_icmp .eq 8, 3) := by decide +kernel
theorem dX6_sortLinks_26 : decode cX6_sortLinks 26 = .ok (.aload_n 0, 1) := by decide +kernel
theorem dX6_sortLinks_27 : decode cX6_sortLinks 27 = .ok (.iload_n 1, 1) := by decide +kernel
theorem dX6_sortLinks_28 : decode cX6_sortLinks 28 = .ok (.invokevirtual 65, 3) := by decide +kernel
theorem dX6_sortLinks_31 : decode cX6_sortLinks 31 = .ok (.iinc 1 1, 3) := by decide +kernel
theorem dX6_sortLinks_34 : decode cX6_sortLinks 34 = .ok (.goto (-27), 3) := by decide +kernel
theorem dX6_sortLinks_37 : decode cX6_sortLinks 37 = .ok (.return_, 1) := by decide +kernel
theorem dX6_sortIn_0 : decode cX6_sortIn 0 = .ok (.aload_n 0, 1) := by decide +kernel
theorem dX6_sortIn_1 : decode cX6_sortIn 1 = .ok (.getfield 25, 3) := by decide +kernel
theorem dX6_sortIn_4 : decode cX6_sortIn 4 = .ok (.istore_n 2, 1) := by decide +kernel
theorem dX6_sortIn_5 : decode cX6_sortIn 5 = .ok (.iload_n 2, 1) := by decide +kernel
theorem dX6_sortIn_6 : decode cX6_sortIn 6 = .ok (.ifCond .le 43, 3) := by decide +kernel
theorem dX6_sortIn_9 : decode cX6_sortIn 9 = .ok (.aload_n 0, 1) := by decide +kernel
theorem dX6_sortIn_10 : decode cX6_sortIn 10 = .ok (.aload_n 0, 1) := by decide +kernel
theorem dX6_sortIn_11 : decode cX6_sortIn 11 = .ok (.getfield 22, 3) := by decide +kernel
theorem dX6_sortIn_14 : decode cX6_sortIn 14 = .ok (.iload_n 2, 1) := by decide +kernel
theorem dX6_sortIn_15 : decode cX6_sortIn 15 = .ok (.iconst 1, 1) := by decide +kernel
theorem dX6_sortIn_16 : decode cX6_sortIn 16 = .ok (.isub, 1) := by decide +kernel
theorem dX6_sortIn_17 : decode cX6_sortIn 17 = .ok (.iaload, 1) := by decide +kernel
theorem dX6_sortIn_18 : decode cX6_sortIn 18 = .ok (.invokevirtual 68, 3) := by decide +kernel
theorem dX6_sortIn_21 : decode cX6_sortIn 21 = .ok (.aload_n 0, 1) := by decide +kernel
theorem dX6_sortIn_22 : decode cX6_sortIn 22 = .ok (.iload_n 1, 1) := by decide +kernel
theorem dX6_sortIn_23 : decode cX6_sortIn 23 = .ok (.invokevirtual 68, 3) := by decide +kernel
theorem dX6_sortIn_26 : decode cX6_sortIn 26 = .ok (.if_icmp .ge 23, 3) := by decide +kernel
theorem dX6_sortIn_29 : decode cX6_sortIn 29 = .ok (.aload_n 0, 1) := by decide +kernel
theorem dX6_sortIn_30 : decode cX6_sortIn 30 = .ok (.getfield 22, 3) := by decide +kernel
theorem dX6_sortIn_33 : decode cX6_sortIn 33 = .ok (.iload_n 2, 1) := by decide +kernel
theorem dX6_sortIn_34 : decode cX6_sortIn 34 = .ok (.aload_n 0, 1) := by decide +kernel
theorem dX6_sortIn_35 : decode cX6_sortIn 35 = .ok (.getfield 22, 3) := by decide +kernel
theorem dX6_sortIn_38 : decode cX6_sortIn 38 = .ok (.iload_n 2, 1) := by decide +kernel
theorem dX6_sortIn_39 : decode cX6_sortIn 39 = .ok (.iconst 1, 1) := by decide +kernel
theorem dX6_sortIn_40 : decode cX6_sortIn 40 = .ok (.isub, 1) := by decide +kernel
theorem dX6_sortIn_41 : decode cX6_sortIn 41 = .ok (.iaload, 1) := by decide +kernel
theorem dX6_sortIn_42 : decode cX6_sortIn 42 = .ok (.iastore, 1) := by decide +kernel
theorem dX6_sortIn_43 : decode cX6_sortIn 43 = .ok (.iinc 2 (-1), 3) := by decide +kernel
theorem dX6_sortIn_46 : decode cX6_sortIn 46 = .ok (.goto (-41), 3) := by decide +kernel
theorem dX6_sortIn_49 : decode cX6_sortIn 49 = .ok (.aload_n 0, 1) := by decide +kernel
theorem dX6_sortIn_50 : decode cX6_sortIn 50 = .ok (.getfield 22, 3) := by decide +kernel
theorem dX6_sortIn_53 : decode cX6_sortIn 53 = .ok (.iload_n 2, 1) := by decide +kernel
theorem dX6_sortIn_54 : decode cX6_sortIn 54 = .ok (.iload_n 1, 1) := by decide +kernel
theorem dX6_sortIn_55 : decode cX6_sortIn 55 = .ok (.iastore, 1) := by decide +kernel
theorem dX6_sortIn_56 : decode cX6_sortIn 56 = .ok (.aload_n 0, 1) := by decide +kernel
theorem dX6_sortIn_57 : decode cX6_sortIn 57 = .ok (.dup, 1) := by decide +kernel
theorem dX6_sortIn_58 : decode cX6_sortIn 58 = .ok (.getfield 25, 3) := by decide +kernel
theorem dX6_sortIn_61 : decode cX6_sortIn 61 = .ok (.iconst 1, 1) := by decide +kernel
theorem dX6_sortIn_62 : decode cX6_sortIn 62 = .ok (.iadd, 1) := by decide +kernel
theorem dX6_sortIn_63 : decode cX6_sortIn 63 = .ok (.putfield 25, 3) := by decide +kernel
theorem dX6_sortIn_66 : decode cX6_sortIn 66 = .ok (.return_, 1) := by decide +kernel
theorem dX6_plant_0 : decode cX6_plant 0 = .ok (.aload_n 0, 1) := by decide +kernel
theorem dX6_plant_1 : decode cX6_plant 1 = .ok (.iconst 0, 1) := by decide +kernel
theorem dX6_plant_2 : decode cX6_plant 2 = .ok (.putfield 15, 3) := by decide +kernel
theorem dX6_plant_5 : decode cX6_plant 5 = .ok (.aload_n 0, 1) := by decide +kernel
theorem dX6_plant_6 : decode cX6_plant 6 = .ok (.iconst 0, 1) := by decide +kernel
theorem dX6_plant_7 : decode cX6_plant 7 = .ok (.putfield 19, 3) := by decide +kernel
theorem dX6_plant_10 : decode cX6_plant 10 = .ok (.iconst 0, 1) := by decide +kernel
theorem dX6_plant_11 : decode cX6_plant 11 = .ok (.istore_n 1, 1) := by decide +kernel
theorem dX6_plant_12 : decode cX6_plant 12 = .ok (.iload_n 1, 1) := by decide +kernel
theorem dX6_plant_13 : decode cX6_plant 13 = .ok (.aload_n 0, 1) := by decide +kernel
theorem dX6_plant_14 : decode cX6_plant 14 = .ok (.getfield 34, 3) := by decide +kernel
theorem dX6_plant_17 : decode cX6_plant 17 = .ok (.getfield 72, 3) := by decide +kernel
theorem dX6_plant_20 : decode cX6_plant 20 = .ok (.if_icmp .ge 23, 3) := by decide +kernel
theorem dX6_plant_23 : decode cX6_plant 23 = .ok (.aload_n 0, 1) := by decide +kernel
theorem dX6_plant_24 : decode cX6_plant 24 = .ok (.getfield 28, 3) := by decide +kernel
theorem dX6_plant_27 : decode cX6_plant 27 = .ok (.iload_n 1, 1) := by decide +kernel
theorem dX6_plant_28 : decode cX6_plant 28 = .ok (.iload_n 1, 1) := by decide +kernel
theorem dX6_plant_29 : decode cX6_plant 29 = .ok (.iastore, 1) := by decide +kernel
theorem dX6_plant_30 : decode cX6_plant 30 = .ok (.aload_n 0, 1) := by decide +kernel
theorem dX6_plant_31 : decode cX6_plant 31 = .ok (.getfield 31, 3) := by decide +kernel
theorem dX6_plant_34 : decode cX6_plant 34 = .ok (.iload_n 1, 1) := by decide +kernel
theorem dX6_plant_35 : decode cX6_plant 35 = .ok (.iconst 0, 1) := by decide +kernel
theorem dX6_plant_36 : decode cX6_plant 36 = .ok (.iastore, 1) := by decide +kernel
theorem dX6_plant_37 : decode cX6_plant 37 = .ok (.iinc 1 1, 3) := by decide +kernel
theorem dX6_plant_40 : decode cX6_plant 40 = .ok (.goto (-28), 3) := by decide +kernel
theorem dX6_plant_43 : decode cX6_plant 43 = .ok (.aload_n 0, 1) := by decide +kernel
theorem dX6_plant_44 : decode cX6_plant 44 = .ok (.getfield 28, 3) := by decide +kernel
theorem dX6_plant_47 : decode cX6_plant 47 = .ok (.aload_n 0, 1) := by decide +kernel
theorem dX6_plant_48 : decode cX6_plant 48 = .ok (.getfield 34, 3) := by decide +kernel
theorem dX6_plant_51 : decode cX6_plant 51 = .ok (.invokevirtual 75, 3) := by decide +kernel
theorem dX6_plant_54 : decode cX6_plant 54 = .ok (.aload_n 0, 1) := by decide +kernel
theorem dX6_plant_55 : decode cX6_plant 55 = .ok (.getfield 28, 3) := by decide +kernel
theorem dX6_plant_58 : decode cX6_plant 58 = .ok (.iconst 0, 1) := by decide +kernel
theorem dX6_plant_59 : decode cX6_plant 59 = .ok (.iaload, 1) := by decide +kernel
theorem dX6_plant_60 : decode cX6_plant 60 = .ok (.iastore, 1) := by decide +kernel
theorem dX6_plant_61 : decode cX6_plant 61 = .ok (.return_, 1) := by decide +kernel
theorem dX6_consider_0 : decode cX6_consider 0 = .ok (.aload_n 0, 1) := by decide +kernel
theorem dX6_consider_1 : decode cX6_consider 1 = .ok (.getfield 28, 3) := by decide +kernel
theorem dX6_consider_4 : decode cX6_consider 4 = .ok (.aload_n 0, 1) := by decide +kernel
theorem dX6_consider_5 : decode cX6_consider 5 = .ok (.getfield 38, 3) := by decide +kernel
theorem dX6_consider_8 : decode cX6_consider 8 = .ok (.getfield 60, 3) := by decide +kernel
theorem dX6_consider_11 : decode cX6_consider 11 = .ok (.iload_n 1, 1) := by decide +kernel
theorem dX6_consider_12 : decode cX6_consider 12 = .ok (.iaload, 1) := by decide +kernel
theorem dX6_consider_13 : decode cX6_consider 13 = .ok (.iaload, 1) := by decide +kernel
theorem dX6_consider_14 : decode cX6_consider 14 = .ok (.aload_n 0, 1) := by decide +kernel
theorem dX6_consider_15 : decode cX6_consider 15 = .ok (.getfield 28, 3) := by decide +kernel
theorem dX6_consider_18 : decode cX6_consider 18 = .ok (.aload_n 0, 1) := by decide +kernel
theorem dX6_consider_19 : decode cX6_consider 19 = .ok (.getfield 38, 3) := by decide +kernel
theorem dX6_consider_22 : decode cX6_consider 22 = .ok (.getfield 79, 3) := by decide +kernel
theorem dX6_consider_25 : decode cX6_consider 25 = .ok (.iload_n 1, 1) := by decide +kernel
theorem dX6_consider_26 : decode cX6_consider 26 = .ok (.iaload, 1) := by decide +kernel
theorem dX6_consider_27 : decode cX6_consider 27 = .ok (.iaload, 1) := by decide +kernel
theorem dX6_consider_28 : decode cX6_consider 28 = .ok (.if_icmp .ne 30, 3) := by decide +kernel
theorem dX6_consider_31 : decode cX6_consider 31 = .ok (.aload_n 0, 1) := by decide +kernel
theorem dX6_consider_32 : decode cX6_consider 32 = .ok (.dup, 1) := by decide +kernel
theorem dX6_consider_33 : decode cX6_consider 33 = .ok (.getfield 15, 3) := by decide +kernel
theorem dX6_consider_36 : decode cX6_consider 36 = .ok (.iconst 1, 1) := by decide +kernel
theorem dX6_consider_37 : decode cX6_consider 37 = .ok (.iadd, 1) := by decide +kernel
theorem dX6_consider_38 : decode cX6_consider 38 = .ok (.putfield 15, 3) := by decide +kernel
theorem dX6_consider_41 : decode cX6_consider 41 = .ok (.aload_n 0, 1) := by decide +kernel
theorem dX6_consider_42 : decode cX6_consider 42 = .ok (.dup, 1) := by decide +kernel
theorem dX6_consider_43 : decode cX6_consider 43 = .ok (.getfield 19, 3) := by decide +kernel
theorem dX6_consider_46 : decode cX6_consider 46 = .ok (.aload_n 0, 1) := by decide +kernel
theorem dX6_consider_47 : decode cX6_consider 47 = .ok (.iload_n 1, 1) := by decide +kernel
theorem dX6_consider_48 : decode cX6_consider 48 = .ok (.invokevirtual 68, 3) := by decide +kernel
theorem dX6_consider_51 : decode cX6_consider 51 = .ok (.iadd, 1) := by decide +kernel
theorem dX6_consider_52 : decode cX6_consider 52 = .ok (.putfield 19, 3) := by decide +kernel
theorem dX6_consider_55 : decode cX6_consider 55 = .ok (.goto 8, 3) := by decide +kernel
theorem dX6_consider_58 : decode cX6_consider 58 = .ok (.aload_n 0, 1) := by decide +kernel
theorem dX6_consider_59 : decode cX6_consider 59 = .ok (.iload_n 1, 1) := by decide +kernel
theorem dX6_consider_60 : decode cX6_consider 60 = .ok (.invokevirtual 82, 3) := by decide +kernel
theorem dX6_consider_63 : decode cX6_consider 63 = .ok (.return_, 1) := by decide +kernel
theorem dX6_join_0 : decode cX6_join 0 = .ok (.aload_n 0, 1) := by decide +kernel
theorem dX6_join_1 : decode cX6_join 1 = .ok (.getfield 38, 3) := by decide +kernel
theorem dX6_join_4 : decode cX6_join 4 = .ok (.getfield 60, 3) := by decide +kernel
theorem dX6_join_7 : decode cX6_join 7 = .ok (.iload_n 1, 1) := by decide +kernel
theorem dX6_join_8 : decode cX6_join 8 = .ok (.iaload, 1) := by decide +kernel
theorem dX6_join_9 : decode cX6_join 9 = .ok (.istore_n 2, 1) := by decide +kernel
theorem dX6_join_10 : decode cX6_join 10 = .ok (.aload_n 0, 1) := by decide +kernel
theorem dX6_join_11 : decode cX6_join 11 = .ok (.getfield 38, 3) := by decide +kernel
theorem dX6_join_14 : decode cX6_join 14 = .ok (.getfield 79, 3) := by decide +kernel
theorem dX6_join_17 : decode cX6_join 17 = .ok (.iload_n 1, 1) := by decide +kernel
theorem dX6_join_18 : decode cX6_join 18 = .ok (.iaload, 1) := by decide +kernel
theorem dX6_join_19 : decode cX6_join 19 = .ok (.istore_n 3, 1) := by decide +kernel
theorem dX6_join_20 : decode cX6_join 20 = .ok (.aload_n 0, 1) := by decide +kernel
theorem dX6_join_21 : decode cX6_join 21 = .ok (.getfield 31, 3) := by decide +kernel
theorem dX6_join_24 : decode cX6_join 24 = .ok (.iload_n 2, 1) := by decide +kernel
theorem dX6_join_25 : decode cX6_join 25 = .ok (.iaload, 1) := by decide +kernel
theorem dX6_join_26 : decode cX6_join 26 = .ok (.aload_n 0, 1) := by decide +kernel
theorem dX6_join_27 : decode cX6_join 27 = .ok (.getfield 38, 3) := by decide +kernel
theorem dX6_join_30 : decode cX6_join 30 = .ok (.getfield 85, 3) := by decide +kernel
theorem dX6_join_33 : decode cX6_join 33 = .ok (.iload_n 1, 1) := by decide +kernel
theorem dX6_join_34 : decode cX6_join 34 = .ok (.iaload, 1) := by decide +kernel
theorem dX6_join_35 : decode cX6_join 35 = .ok (.iadd, 1) := by decide +kernel
theorem dX6_join_36 : decode cX6_join 36 = .ok (.aload_n 0, 1) := by decide +kernel
theorem dX6_join_37 : decode cX6_join 37 = .ok (.getfield 31, 3) := by decide +kernel
theorem dX6_join_40 : decode cX6_join 40 = .ok (.iload_n 3, 1) := by decide +kernel
theorem dX6_join_41 : decode cX6_join 41 = .ok (.iaload, 1) := by decide +kernel
theorem dX6_join_42 : decode cX6_join 42 = .ok (.isub, 1) := by decide +kernel
theorem dX6_join_43 : decode cX6_join 43 = .ok (.istore 4, 2) := by decide +kernel
theorem dX6_join_45 : decode cX6_join 45 = .ok (.aload_n 0, 1) := by decide +kernel
theorem dX6_join_46 : decode cX6_join 46 = .ok (.getfield 28, 3) := by decide +kernel
theorem dX6_join_49 : decode cX6_join 49 = .ok (.iload_n 2, 1) := by decide +kernel
theorem dX6_join_50 : decode cX6_join 50 = .ok (.iaload, 1) := by decide +kernel
theorem dX6_join_51 : decode cX6_join 51 = .ok (.istore 5, 2) := by decide +kernel
theorem dX6_join_53 : decode cX6_join 53 = .ok (.aload_n 0, 1) := by decide +kernel
theorem dX6_join_54 : decode cX6_join 54 = .ok (.getfield 28, 3) := by decide +kernel
theorem dX6_join_57 : decode cX6_join 57 = .ok (.iload_n 3, 1) := by decide +kernel
theorem dX6_join_58 : decode cX6_join 58 = .ok (.iaload, 1) := by decide +kernel
theorem dX6_join_59 : decode cX6_join 59 = .ok (.istore 6, 2) := by decide +kernel
theorem dX6_join_61 : decode cX6_join 61 = .ok (.iconst 0, 1) := by decide +kernel
theorem dX6_join_62 : decode cX6_join 62 = .ok (.istore 7, 2) := by decide +kernel
theorem dX6_join_64 : decode cX6_join 64 = .ok (.iload 7, 2) := by decide +kernel
theorem dX6_join_66 : decode cX6_join 66 = .ok (.aload_n 0, 1) := by decide +kernel
theorem dX6_join_67 : decode cX6_join 67 = .ok (.getfield 34, 3) := by decide +kernel
theorem dX6_join_70 : decode cX6_join 70 = .ok (.getfield 72, 3) := by decide +kernel
theorem dX6_join_73 : decode cX6_join 73 = .ok (.if_icmp .ge 42, 3) := by decide +kernel
theorem dX6_join_76 : decode cX6_join 76 = .ok (.aload_n 0, 1) := by decide +kernel
theorem dX6_join_77 : decode cX6_join 77 = .ok (.getfield 28, 3) := by decide +kernel
theorem dX6_join_80 : decode cX6_join 80 = .ok (.iload 7, 2) := by decide +kernel
theorem dX6_join_82 : decode cX6_join 82 = .ok (.iaload, 1) := by decide +kernel
theorem dX6_join_83 : decode cX6_join 83 = .ok (.iload 6, 2) := by decide +kernel
theorem dX6_join_85 : decode cX6_join 85 = .ok (.if_icmp .ne 24, 3) := by decide +kernel
theorem dX6_join_88 : decode cX6_join 88 = .ok (.aload_n 0, 1) := by decide +kernel
theorem dX6_join_89 : decode cX6_join 89 = .ok (.getfield 28, 3) := by decide +kernel
theorem dX6_join_92 : decode cX6_join 92 = .ok (.iload 7, 2) := by decide +kernel
theorem dX6_join_94 : decode cX6_join 94 = .ok (.iload 5, 2) := by decide +kernel
theorem dX6_join_96 : decode cX6_join 96 = .ok (.iastore, 1) := by decide +kernel
theorem dX6_join_97 : decode cX6_join 97 = .ok (.aload_n 0, 1) := by decide +kernel
theorem dX6_join_98 : decode cX6_join 98 = .ok (.getfield 31, 3) := by decide +kernel
theorem dX6_join_101 : decode cX6_join 101 = .ok (.iload 7, 2) := by decide +kernel
theorem dX6_join_103 : decode cX6_join 103 = .ok (.dup2, 1) := by decide +kernel
theorem dX6_join_104 : decode cX6_join 104 = .ok (.iaload, 1) := by decide +kernel
theorem dX6_join_105 : decode cX6_join 105 = .ok (.iload 4, 2) := by decide +kernel
theorem dX6_join_107 : decode cX6_join 107 = .ok (.iadd, 1) := by decide +kernel
theorem dX6_join_108 : decode cX6_join 108 = .ok (.iastore, 1) := by decide +kernel
theorem dX6_join_109 : decode cX6_join 109 = .ok (.iinc 7 1, 3) := by decide +kernel
theorem dX6_join_112 : decode cX6_join 112 = .ok (.goto (-48), 3) := by decide +kernel
theorem dX6_join_115 : decode cX6_join 115 = .ok (.return_, 1) := by decide +kernel
theorem dX6_computeIncrements_0 : decode cX6_computeIncrements 0 = .ok (.iconst 0, 1) := by decide +kernel
theorem dX6_computeIncrements_1 : decode cX6_computeIncrements 1 = .ok (.istore_n 1, 1) := by decide +kernel
theorem dX6_computeIncrements_2 : decode cX6_computeIncrements 2 = .ok (.iload_n 1, 1) := by decide +kernel
theorem dX6_computeIncrements_3 : decode cX6_computeIncrements 3 = .ok (.aload_n 0, 1) := by decide +kernel
theorem dX6_computeIncrements_4 : decode cX6_computeIncrements 4 = .ok (.getfield 25, 3) := by decide +kernel
theorem dX6_computeIncrements_7 : decode cX6_computeIncrements 7 = .ok (.if_icmp .ge 61, 3) := by decide +kernel
theorem dX6_computeIncrements_10 : decode cX6_computeIncrements 10 = .ok (.aload_n 0, 1) := by decide +kernel
theorem dX6_computeIncrements_11 : decode cX6_computeIncrements 11 = .ok (.getfield 22, 3) := by decide +kernel
theorem dX6_computeIncrements_14 : decode cX6_computeIncrements 14 = .ok (.iload_n 1, 1) := by decide +kernel
theorem dX6_computeIncrements_15 : decode cX6_computeIncrements 15 = .ok (.iaload, 1) := by decide +kernel
theorem dX6_computeIncrements_16 : decode cX6_computeIncrements 16 = .ok (.istore_n 2, 1) := by decide +kernel
theorem dX6_computeIncrements_17 : decode cX6_computeIncrements 17 = .ok (.aload_n 0, 1) := by decide +kernel
theorem dX6_computeIncrements_18 : decode cX6_computeIncrements 18 = .ok (.getfield 9, 3) := by decide +kernel
theorem dX6_computeIncrements_21 : decode cX6_computeIncrements 21 = .ok (.iload_n 2, 1) := by decide +kernel
theorem dX6_computeIncrements_22 : decode cX6_computeIncrements 22 = .ok (.aload_n 0, 1) := by decide +kernel
theorem dX6_computeIncrements_23 : decode cX6_computeIncrements 23 = .ok (.getfield 38, 3) := by decide +kernel
theorem dX6_computeIncrements_26 : decode cX6_computeIncrements 26 = .ok (.getfield 85, 3) := by decide +kernel
theorem dX6_computeIncrements_29 : decode cX6_computeIncrements 29 = .ok (.iload_n 2, 1) := by decide +kernel
theorem dX6_computeIncrements_30 : decode cX6_computeIncrements 30 = .ok (.iaload, 1) := by decide +kernel
theorem dX6_computeIncrements_31 : decode cX6_computeIncrements 31 = .ok (.aload_n 0, 1) := by decide +kernel
theorem dX6_computeIncrements_32 : decode cX6_computeIncrements 32 = .ok (.getfield 31, 3) := by decide +kernel
theorem dX6_computeIncrements_35 : decode cX6_computeIncrements 35 = .ok (.aload_n 0, 1) := by decide +kernel
theorem dX6_computeIncrements_36 : decode cX6_computeIncrements 36 = .ok (.getfield 38, 3) := by decide +kernel
theorem dX6_computeIncrements_39 : decode cX6_computeIncrements 39 = .ok (.getfield 60, 3) := by decide +kernel
theorem dX6_computeIncrements_42 : decode cX6_computeIncrements 42 = .ok (.iload_n 2, 1) := by decide +kernel
theorem dX6_computeIncrements_43 : decode cX6_computeIncrements 43 = .ok (.iaload, 1) := by decide +kernel
theorem dX6_computeIncrements_44 : decode cX6_computeIncrements 44 = .ok (.iaload, 1) := by decide +kernel
theorem dX6_computeIncrements_45 : decode cX6_computeIncrements 45 = .ok (.iadd, 1) := by decide +kernel
theorem dX6_computeIncrements_46 : decode cX6_computeIncrements 46 = .ok (.aload_n 0, 1) := by decide +kernel
theorem dX6_computeIncrements_47 : decode cX6_computeIncrements 47 = .ok (.getfield 31, 3) := by decide +kernel
theorem dX6_computeIncrements_50 : decode cX6_computeIncrements 50 = .ok (.aload_n 0, 1) := by decide +kernel
theorem dX6_computeIncrements_51 : decode cX6_computeIncrements 51 = .ok (.getfield 38, 3) := by decide +kernel
theorem dX6_computeIncrements_54 : decode cX6_computeIncrements 54 = .ok (.getfield 79, 3) := by decide +kernel
theorem dX6_computeIncrements_57 : decode cX6_computeIncrements 57 = .ok (.iload_n 2, 1) := by decide +kernel
theorem dX6_computeIncrements_58 : decode cX6_computeIncrements 58 = .ok (.iaload, 1) := by decide +kernel
theorem dX6_computeIncrements_59 : decode cX6_computeIncrements 59 = .ok (.iaload, 1) := by decide +kernel
theorem dX6_computeIncrements_60 : decode cX6_computeIncrements 60 = .ok (.isub, 1) := by decide +kernel
theorem dX6_computeIncrements_61 : decode cX6_computeIncrements 61 = .ok (.iastore, 1) := by decide +kernel
theorem dX6_computeIncrements_62 : decode cX6_computeIncrements 62 = .ok (.iinc 1 1, 3) := by decide +kernel
theorem dX6_computeIncrements_65 : decode cX6_computeIncrements 65 = .ok (.goto (-63), 3) := by decide +kernel
theorem dX6_computeIncrements_68 : decode cX6_computeIncrements 68 = .ok (.return_, 1) := by decide +kernel
theorem dX7_init_0 : decode cX7_init 0 = .ok (.aload_n 0, 1) := by decide +kernel
theorem dX7_init_1 : decode cX7_init 1 = .ok (.invokespecial 3, 3) := by decide +kernel
theorem dX7_init_4 : decode cX7_init 4 = .ok (.aload_n 0, 1) := by decide +kernel
theorem dX7_init_5 : decode cX7_init 5 = .ok (.iconst (-1), 1) := by decide +kernel
theorem dX7_init_6 : decode cX7_init 6 = .ok (.putfield 9, 3) := by decide +kernel
theorem dX7_init_9 : decode cX7_init 9 = .ok (.aload_n 0, 1) := by decide +kernel
theorem dX7_init_10 : decode cX7_init 10 = .ok (.iconst 0, 1) := by decide +kernel
theorem dX7_init_11 : decode cX7_init 11 = .ok (.putfield 15, 3) := by decide +kernel
theorem dX7_init_14 : decode cX7_init 14 = .ok (.aload_n 0, 1) := by decide +kernel
theorem dX7_init_15 : decode cX7_init 15 = .ok (.sipush 200, 3) := by decide +kernel
theorem dX7_init_18 : decode cX7_init 18 = .ok (.newarray .int, 2) := by decide +kernel
theorem dX7_init_20 : decode cX7_init 20 = .ok (.putfield 18, 3) := by decide +kernel
theorem dX7_init_23 : decode cX7_init 23 = .ok (.aload_n 0, 1) := by decide +kernel
theorem dX7_init_24 : decode cX7_init 24 = .ok (.iconst 0, 1) := by decide +kernel
theorem dX7_init_25 : decode cX7_init 25 = .ok (.putfield 22, 3) := by decide +kernel
theorem dX7_init_28 : decode cX7_init 28 = .ok (.return_, 1) := by decide +kernel
theorem dX7_forget_0 : decode cX7_forget 0 = .ok (.aload_n 0, 1) := by decide +kernel
theorem dX7_forget_1 : decode cX7_forget 1 = .ok (.iconst (-1), 1) := by decide +kernel
theorem dX7_forget_2 : decode cX7_forget 2 = .ok (.putfield 9, 3) := by decide +kernel
theorem dX7_forget_5 : decode cX7_forget 5 = .ok (.aload_n 0, 1) := by decide +kernel
theorem dX7_forget_6 : decode cX7_forget 6 = .ok (.iconst 0, 1) := by decide +kernel
theorem dX7_forget_7 : decode cX7_forget 7 = .ok (.putfield 15, 3) := by decide +kernel
theorem dX7_forget_10 : decode cX7_forget 10 = .ok (.aload_n 0, 1) := by decide +kernel
theorem dX7_forget_11 : decode cX7_forget 11 = .ok (.iconst 0, 1) := by decide +kernel
theorem dX7_forget_12 : decode cX7_forget 12 = .ok (.putfield 22, 3) := by decide +kernel
theorem dX7_forget_15 : decode cX7_forget 15 = .ok (.iconst 0, 1) := by decide +kernel
theorem dX7_forget_16 : decode cX7_forget 16 = .ok (.istore_n 1, 1) := by decide +kernel
theorem dX7_forget_17 : decode cX7_forget 17 = .ok (.iload_n 1, 1) := by decide +kernel
theorem dX7_forget_18 : decode cX7_forget 18 = .ok (.sipush 200, 3) := by decide +kernel
theorem dX7_forget_21 : decode cX7_forget 21 = .ok (.if_icmp .ge 16, 3) := by decide +kernel
theorem dX7_forget_24 : decode cX7_forget 24 = .ok (.aload_n 0, 1) := by decide +kernel
theorem dX7_forget_25 : decode cX7_forget 25 = .ok (.getfield 18, 3) := by decide +kernel
theorem dX7_forget_28 : decode cX7_forget 28 = .ok (.iload_n 1, 1) := by decide +kernel
theorem dX7_forget_29 : decode cX7_forget 29 = .ok (.iconst 0, 1) := by decide +kernel
theorem dX7_forget_30 : decode cX7_forget 30 = .ok (.iastore, 1) := by decide +kernel
theorem dX7_forget_31 : decode cX7_forget 31 = .ok (.iinc 1 1, 3) := by decide +kernel
theorem dX7_forget_34 : decode cX7_forget 34 = .ok (.goto (-17), 3) := by decide +kernel
theorem dX7_forget_37 : decode cX7_forget 37 = .ok (.return_, 1) := by decide +kernel
theorem dX7_begin_0 : decode cX7_begin 0 = .ok (.aload_n 0, 1) := by decide +kernel
theorem dX7_begin_1 : decode cX7_begin 1 = .ok (.iconst 0, 1) := by decide +kernel
theorem dX7_begin_2 : decode cX7_begin 2 = .ok (.putfield 9, 3) := by decide +kernel
theorem dX7_begin_5 : decode cX7_begin 5 = .ok (.aload_n 0, 1) := by decide +kernel
theorem dX7_begin_6 : decode cX7_begin 6 = .ok (.iconst 0, 1) := by decide +kernel
theorem dX7_begin_7 : decode cX7_begin 7 = .ok (.putfield 15, 3) := by decide +kernel
theorem dX7_begin_10 : decode cX7_begin 10 = .ok (.return_, 1) := by decide +kernel
theorem dX7_countPath_0 : decode cX7_countPath 0 = .ok (.aload_n 0, 1) := by decide +kernel
theorem dX7_countPath_1 : decode cX7_countPath 1 = .ok (.getfield 15, 3) := by decide +kernel
theorem dX7_countPath_4 : decode cX7_countPath 4 = .ok (.ifCond .lt 36, 3) := by decide +kernel
theorem dX7_countPath_7 : decode cX7_countPath 7 = .ok (.aload_n 0, 1) := by decide +kernel
theorem dX7_countPath_8 : decode cX7_countPath 8 = .ok (.getfield 15, 3) := by decide +kernel
theorem dX7_countPath_11 : decode cX7_countPath 11 = .ok (.sipush 200, 3) := by decide +kernel
theorem dX7_countPath_14 : decode cX7_countPath 14 = .ok (.if_icmp .ge 26, 3) := by decide +kernel
theorem dX7_countPath_17 : decode cX7_countPath 17 = .ok (.aload_n 0, 1) := by decide +kernel
theorem dX7_countPath_18 : decode cX7_countPath 18 = .ok (.getfield 18, 3) := by decide +kernel
theorem dX7_countPath_21 : decode cX7_countPath 21 = .ok (.aload_n 0, 1) := by decide +kernel
theorem dX7_countPath_22 : decode cX7_countPath 22 = .ok (.getfield 15, 3) := by decide +kernel
theorem dX7_countPath_25 : decode cX7_countPath 25 = .ok (.dup2, 1) := by decide +kernel
theorem dX7_countPath_26 : decode cX7_countPath 26 = .ok (.iaload, 1) := by decide +kernel
theorem dX7_countPath_27 : decode cX7_countPath 27 = .ok (.iconst 1, 1) := by decide +kernel
theorem dX7_countPath_28 : decode cX7_countPath 28 = .ok (.iadd, 1) := by decide +kernel
theorem dX7_countPath_29 : decode cX7_countPath 29 = .ok (.iastore, 1) := by decide +kernel
theorem dX7_countPath_30 : decode cX7_countPath 30 = .ok (.aload_n 0, 1) := by decide +kernel
theorem dX7_countPath_31 : decode cX7_countPath 31 = .ok (.dup, 1) := by decide +kernel
theorem dX7_countPath_32 : decode cX7_countPath 32 = .ok (.getfield 22, 3) := by decide +kernel
theorem dX7_countPath_35 : decode cX7_countPath 35 = .ok (.iconst 1, 1) := by decide +kernel
theorem dX7_countPath_36 : decode cX7_countPath 36 = .ok (.iadd, 1) := by decide +kernel
theorem dX7_countPath_37 : decode cX7_countPath 37 = .ok (.putfield 22, 3) := by decide +kernel
theorem dX7_countPath_40 : decode cX7_countPath 40 = .ok (.return_, 1) := by decide +kernel
