theorem dX9_search_208 : decode cX9_search 208 = .ok (.iload_n 3, 1) := by decide +kernel
theorem dX9_search_209 : decode cX9_search 209 = .ok (.iaload, 1) := by decide +kernel
theorem dX9_search_210 : decode cX9_search 210 = .ok (.iconst 1, 1) := by decide +kernel
theorem dX9_search_211 : decode cX9_search 211 = .ok (.bastore, 1) := by decide +kernel
theorem dX9_search_212 : decode cX9_search 212 = .ok (.aload_n 0, 1) := by decide +kernel
theorem dX9_search_213 : decode cX9_search 213 = .ok (.getfield 57, 3) := by decide +kernel
theorem dX9_search_216 : decode cX9_search 216 = .ok (.iload_n 1, 1) := by decide +kernel
theorem dX9_search_217 : decode cX9_search 217 = .ok (.aload_n 0, 1) := by decide +kernel
theorem dX9_search_218 : decode cX9_search 218 = .ok (.getfield 17, 3) := by decide +kernel
theorem dX9_search_221 : decode cX9_search 221 = .ok (.iload_n 3, 1) := by decide +kernel
theorem dX9_search_222 : decode cX9_search 222 = .ok (.iaload, 1) := by decide +kernel
theorem dX9_search_223 : decode cX9_search 223 = .ok (.iastore, 1) := by decide +kernel
theorem dX9_search_224 : decode cX9_search 224 = .ok (.iinc 1 1, 3) := by decide +kernel
theorem dX9_search_227 : decode cX9_search 227 = .ok (.goto (-164), 3) := by decide +kernel
theorem dX9_search_230 : decode cX9_search 230 = .ok (.return_, 1) := by decide +kernel
theorem dX9_allEnd_0 : decode cX9_allEnd 0 = .ok (.iconst 1, 1) := by decide +kernel
theorem dX9_allEnd_1 : decode cX9_allEnd 1 = .ok (.aload_n 0, 1) := by decide +kernel
theorem dX9_allEnd_2 : decode cX9_allEnd 2 = .ok (.getfield 7, 3) := by decide +kernel
theorem dX9_allEnd_5 : decode cX9_allEnd 5 = .ok (.iconst 1, 1) := by decide +kernel
theorem dX9_allEnd_6 : decode cX9_allEnd 6 = .ok (.isub, 1) := by decide +kernel
theorem dX9_allEnd_7 : decode cX9_allEnd 7 = .ok (.ishl, 1) := by decide +kernel
theorem dX9_allEnd_8 : decode cX9_allEnd 8 = .ok (.istore_n 1, 1) := by decide +kernel
theorem dX9_allEnd_9 : decode cX9_allEnd 9 = .ok (.iconst 0, 1) := by decide +kernel
theorem dX9_allEnd_10 : decode cX9_allEnd 10 = .ok (.istore_n 2, 1) := by decide +kernel
theorem dX9_allEnd_11 : decode cX9_allEnd 11 = .ok (.iload_n 2, 1) := by decide +kernel
theorem dX9_allEnd_12 : decode cX9_allEnd 12 = .ok (.aload_n 0, 1) := by decide +kernel
theorem dX9_allEnd_13 : decode cX9_allEnd 13 = .ok (.getfield 7, 3) := by decide +kernel
theorem dX9_allEnd_16 : decode cX9_allEnd 16 = .ok (.if_icmp .ge 54, 3) := by decide +kernel
theorem dX9_allEnd_19 : decode cX9_allEnd 19 = .ok (.iconst 0, 1) := by decide +kernel
theorem dX9_allEnd_20 : decode cX9_allEnd 20 = .ok (.istore_n 3, 1) := by decide +kernel
theorem dX9_allEnd_21 : decode cX9_allEnd 21 = .ok (.iload_n 3, 1) := by decide +kernel
theorem dX9_allEnd_22 : decode cX9_allEnd 22 = .ok (.aload_n 0, 1) := by decide +kernel
theorem dX9_allEnd_23 : decode cX9_allEnd 23 = .ok (.getfield 101, 3) := by decide +kernel
theorem dX9_allEnd_26 : decode cX9_allEnd 26 = .ok (.if_icmp .ge 38, 3) := by decide +kernel
theorem dX9_allEnd_29 : decode cX9_allEnd 29 = .ok (.iload_n 1, 1) := by decide +kernel
theorem dX9_allEnd_30 : decode cX9_allEnd 30 = .ok (.iload_n 1, 1) := by decide +kernel
theorem dX9_allEnd_31 : decode cX9_allEnd 31 = .ok (.aload_n 0, 1) := by decide +kernel
theorem dX9_allEnd_32 : decode cX9_allEnd 32 = .ok (.getfield 17, 3) := by decide +kernel
theorem dX9_allEnd_35 : decode cX9_allEnd 35 = .ok (.iload_n 3, 1) := by decide +kernel
theorem dX9_allEnd_36 : decode cX9_allEnd 36 = .ok (.iaload, 1) := by decide +kernel
theorem dX9_allEnd_37 : decode cX9_allEnd 37 = .ok (.ishr, 1) := by decide +kernel
theorem dX9_allEnd_38 : decode cX9_allEnd 38 = .ok (.iconst 1, 1) := by decide +kernel
theorem dX9_allEnd_39 : decode cX9_allEnd 39 = .ok (.iand, 1) := by decide +kernel
theorem dX9_allEnd_40 : decode cX9_allEnd 40 = .ok (.iconst 1, 1) := by decide +kernel
theorem dX9_allEnd_41 : decode cX9_allEnd 41 = .ok (.if_icmp .ne 14, 3) := by decide +kernel
theorem dX9_allEnd_44 : decode cX9_allEnd 44 = .ok (.iconst 1, 1) := by decide +kernel
theorem dX9_allEnd_45 : decode cX9_allEnd 45 = .ok (.aload_n 0, 1) := by decide +kernel
theorem dX9_allEnd_46 : decode cX9_allEnd 46 = .ok (.getfield 13, 3) := by decide +kernel
theorem dX9_allEnd_49 : decode cX9_allEnd 49 = .ok (.iload_n 3, 1) := by decide +kernel
theorem dX9_allEnd_50 : decode cX9_allEnd 50 = .ok (.iaload, 1) := by decide +kernel
theorem dX9_allEnd_51 : decode cX9_allEnd 51 = .ok (.ishl, 1) := by decide +kernel
theorem dX9_allEnd_52 : decode cX9_allEnd 52 = .ok (.goto 4, 3) := by decide +kernel
theorem dX9_allEnd_55 : decode cX9_allEnd 55 = .ok (.iconst 0, 1) := by decide +kernel
theorem dX9_allEnd_56 : decode cX9_allEnd 56 = .ok (.ior, 1) := by decide +kernel
theorem dX9_allEnd_57 : decode cX9_allEnd 57 = .ok (.istore_n 1, 1) := by decide +kernel
theorem dX9_allEnd_58 : decode cX9_allEnd 58 = .ok (.iinc 3 1, 3) := by decide +kernel
theorem dX9_allEnd_61 : decode cX9_allEnd 61 = .ok (.goto (-40), 3) := by decide +kernel
theorem dX9_allEnd_64 : decode cX9_allEnd 64 = .ok (.iinc 2 1, 3) := by decide +kernel
theorem dX9_allEnd_67 : decode cX9_allEnd 67 = .ok (.goto (-56), 3) := by decide +kernel
theorem dX9_allEnd_70 : decode cX9_allEnd 70 = .ok (.iload_n 1, 1) := by decide +kernel
theorem dX9_allEnd_71 : decode cX9_allEnd 71 = .ok (.iconst 1, 1) := by decide +kernel
theorem dX9_allEnd_72 : decode cX9_allEnd 72 = .ok (.aload_n 0, 1) := by decide +kernel
theorem dX9_allEnd_73 : decode cX9_allEnd 73 = .ok (.getfield 7, 3) := by decide +kernel
theorem dX9_allEnd_76 : decode cX9_allEnd 76 = .ok (.ishl, 1) := by decide +kernel
theorem dX9_allEnd_77 : decode cX9_allEnd 77 = .ok (.iconst 1, 1) := by decide +kernel
theorem dX9_allEnd_78 : decode cX9_allEnd 78 = .ok (.isub, 1) := by decide +kernel
theorem dX9_allEnd_79 : decode cX9_allEnd 79 = .ok (.if_icmp .ne 7, 3) := by decide +kernel
theorem dX9_allEnd_82 : decode cX9_allEnd 82 = .ok (.iconst 1, 1) := by decide +kernel
theorem dX9_allEnd_83 : decode cX9_allEnd 83 = .ok (.goto 4, 3) := by decide +kernel
theorem dX9_allEnd_86 : decode cX9_allEnd 86 = .ok (.iconst 0, 1) := by decide +kernel
theorem dX9_allEnd_87 : decode cX9_allEnd 87 = .ok (.ireturn, 1) := by decide +kernel
theorem dX9_linkFrom_0 : decode cX9_linkFrom 0 = .ok (.iload_n 1, 1) := by decide +kernel
theorem dX9_linkFrom_1 : decode cX9_linkFrom 1 = .ok (.iconst 2, 1) := by decide +kernel
theorem dX9_linkFrom_2 : decode cX9_linkFrom 2 = .ok (.irem, 1) := by decide +kernel
theorem dX9_linkFrom_3 : decode cX9_linkFrom 3 = .ok (.iconst 1, 1) := by decide +kernel
theorem dX9_linkFrom_4 : decode cX9_linkFrom 4 = .ok (.if_icmp .ne 7, 3) := by decide +kernel
theorem dX9_linkFrom_7 : decode cX9_linkFrom 7 = .ok (.iconst 0, 1) := by decide +kernel
theorem dX9_linkFrom_8 : decode cX9_linkFrom 8 = .ok (.goto 11, 3) := by decide +kernel
theorem dX9_linkFrom_11 : decode cX9_linkFrom 11 = .ok (.aload_n 0, 1) := by decide +kernel
theorem dX9_linkFrom_12 : decode cX9_linkFrom 12 = .ok (.getfield 13, 3) := by decide +kernel
theorem dX9_linkFrom_15 : decode cX9_linkFrom 15 = .ok (.iload_n 1, 1) := by decide +kernel
theorem dX9_linkFrom_16 : decode cX9_linkFrom 16 = .ok (.iconst 2, 1) := by decide +kernel
theorem dX9_linkFrom_17 : decode cX9_linkFrom 17 = .ok (.idiv, 1) := by decide +kernel
theorem dX9_linkFrom_18 : decode cX9_linkFrom 18 = .ok (.iaload, 1) := by decide +kernel
theorem dX9_linkFrom_19 : decode cX9_linkFrom 19 = .ok (.ireturn, 1) := by decide +kernel
theorem dX9_linkTo_0 : decode cX9_linkTo 0 = .ok (.iload_n 1, 1) := by decide +kernel
theorem dX9_linkTo_1 : decode cX9_linkTo 1 = .ok (.iconst 2, 1) := by decide +kernel
theorem dX9_linkTo_2 : decode cX9_linkTo 2 = .ok (.irem, 1) := by decide +kernel
theorem dX9_linkTo_3 : decode cX9_linkTo 3 = .ok (.ifCond .ne 23, 3) := by decide +kernel
theorem dX9_linkTo_6 : decode cX9_linkTo 6 = .ok (.aload_n 0, 1) := by decide +kernel
theorem dX9_linkTo_7 : decode cX9_linkTo 7 = .ok (.getfield 26, 3) := by decide +kernel
theorem dX9_linkTo_10 : decode cX9_linkTo 10 = .ok (.iload_n 1, 1) := by decide +kernel
theorem dX9_linkTo_11 : decode cX9_linkTo 11 = .ok (.iconst 2, 1) := by decide +kernel
theorem dX9_linkTo_12 : decode cX9_linkTo 12 = .ok (.idiv, 1) := by decide +kernel
theorem dX9_linkTo_13 : decode cX9_linkTo 13 = .ok (.baload, 1) := by decide +kernel
theorem dX9_linkTo_14 : decode cX9_linkTo 14 = .ok (.ifCond .eq 12, 3) := by decide +kernel
theorem dX9_linkTo_17 : decode cX9_linkTo 17 = .ok (.aload_n 0, 1) := by decide +kernel
theorem dX9_linkTo_18 : decode cX9_linkTo 18 = .ok (.getfield 7, 3) := by decide +kernel
theorem dX9_linkTo_21 : decode cX9_linkTo 21 = .ok (.iconst 1, 1) := by decide +kernel
theorem dX9_linkTo_22 : decode cX9_linkTo 22 = .ok (.isub, 1) := by decide +kernel
theorem dX9_linkTo_23 : decode cX9_linkTo 23 = .ok (.goto 11, 3) := by decide +kernel
theorem dX9_linkTo_26 : decode cX9_linkTo 26 = .ok (.aload_n 0, 1) := by decide +kernel
theorem dX9_linkTo_27 : decode cX9_linkTo 27 = .ok (.getfield 17, 3) := by decide +kernel
theorem dX9_linkTo_30 : decode cX9_linkTo 30 = .ok (.iload_n 1, 1) := by decide +kernel
theorem dX9_linkTo_31 : decode cX9_linkTo 31 = .ok (.iconst 2, 1) := by decide +kernel
theorem dX9_linkTo_32 : decode cX9_linkTo 32 = .ok (.idiv, 1) := by decide +kernel
theorem dX9_linkTo_33 : decode cX9_linkTo 33 = .ok (.iaload, 1) := by decide +kernel
theorem dX9_linkTo_34 : decode cX9_linkTo 34 = .ok (.ireturn, 1) := by decide +kernel
theorem dX9_isLink_0 : decode cX9_isLink 0 = .ok (.iload_n 1, 1) := by decide +kernel
theorem dX9_isLink_1 : decode cX9_isLink 1 = .ok (.iconst 2, 1) := by decide +kernel
theorem dX9_isLink_2 : decode cX9_isLink 2 = .ok (.idiv, 1) := by decide +kernel
theorem dX9_isLink_3 : decode cX9_isLink 3 = .ok (.aload_n 0, 1) := by decide +kernel
theorem dX9_isLink_4 : decode cX9_isLink 4 = .ok (.getfield 101, 3) := by decide +kernel
theorem dX9_isLink_7 : decode cX9_isLink 7 = .ok (.if_icmp .ge 24, 3) := by decide +kernel
theorem dX9_isLink_10 : decode cX9_isLink 10 = .ok (.iload_n 1, 1) := by decide +kernel
theorem dX9_isLink_11 : decode cX9_isLink 11 = .ok (.iconst 2, 1) := by decide +kernel
theorem dX9_isLink_12 : decode cX9_isLink 12 = .ok (.irem, 1) := by decide +kernel
theorem dX9_isLink_13 : decode cX9_isLink 13 = .ok (.ifCond .eq 14, 3) := by decide +kernel
theorem dX9_isLink_16 : decode cX9_isLink 16 = .ok (.aload_n 0, 1) := by decide +kernel
theorem dX9_isLink_17 : decode cX9_isLink 17 = .ok (.getfield 26, 3) := by decide +kernel
theorem dX9_isLink_20 : decode cX9_isLink 20 = .ok (.iload_n 1, 1) := by decide +kernel
theorem dX9_isLink_21 : decode cX9_isLink 21 = .ok (.iconst 2, 1) := by decide +kernel
theorem dX9_isLink_22 : decode cX9_isLink 22 = .ok (.idiv, 1) := by decide +kernel
theorem dX9_isLink_23 : decode cX9_isLink 23 = .ok (.baload, 1) := by decide +kernel
theorem dX9_isLink_24 : decode cX9_isLink 24 = .ok (.ifCond .eq 7, 3) := by decide +kernel
theorem dX9_isLink_27 : decode cX9_isLink 27 = .ok (.iconst 1, 1) := by decide +kernel
theorem dX9_isLink_28 : decode cX9_isLink 28 = .ok (.goto 4, 3) := by decide +kernel
theorem dX9_isLink_31 : decode cX9_isLink 31 = .ok (.iconst 0, 1) := by decide +kernel
theorem dX9_isLink_32 : decode cX9_isLink 32 = .ok (.ireturn, 1) := by decide +kernel
theorem dX9_kind_0 : decode cX9_kind 0 = .ok (.iload_n 1, 1) := by decide +kernel
theorem dX9_kind_1 : decode cX9_kind 1 = .ok (.iconst 2, 1) := by decide +kernel
theorem dX9_kind_2 : decode cX9_kind 2 = .ok (.irem, 1) := by decide +kernel
theorem dX9_kind_3 : decode cX9_kind 3 = .ok (.iconst 1, 1) := by decide +kernel
theorem dX9_kind_4 : decode cX9_kind 4 = .ok (.if_icmp .ne 7, 3) := by decide +kernel
theorem dX9_kind_7 : decode cX9_kind 7 = .ok (.iconst 2, 1) := by decide +kernel
theorem dX9_kind_8 : decode cX9_kind 8 = .ok (.goto 19, 3) := by decide +kernel
theorem dX9_kind_11 : decode cX9_kind 11 = .ok (.aload_n 0, 1) := by decide +kernel
theorem dX9_kind_12 : decode cX9_kind 12 = .ok (.getfield 26, 3) := by decide +kernel
theorem dX9_kind_15 : decode cX9_kind 15 = .ok (.iload_n 1, 1) := by decide +kernel
theorem dX9_kind_16 : decode cX9_kind 16 = .ok (.iconst 2, 1) := by decide +kernel
theorem dX9_kind_17 : decode cX9_kind 17 = .ok (.idiv, 1) := by decide +kernel
theorem dX9_kind_18 : decode cX9_kind 18 = .ok (.baload, 1) := by decide +kernel
theorem dX9_kind_19 : decode cX9_kind 19 = .ok (.ifCond .eq 7, 3) := by decide +kernel
theorem dX9_kind_22 : decode cX9_kind 22 = .ok (.iconst 1, 1) := by decide +kernel
theorem dX9_kind_23 : decode cX9_kind 23 = .ok (.goto 4, 3) := by decide +kernel
theorem dX9_kind_26 : decode cX9_kind 26 = .ok (.iconst 0, 1) := by decide +kernel
theorem dX9_kind_27 : decode cX9_kind 27 = .ok (.ireturn, 1) := by decide +kernel
theorem dX9_linkBehind_0 : decode cX9_linkBehind 0 = .ok (.iconst (-1), 1) := by decide +kernel
theorem dX9_linkBehind_1 : decode cX9_linkBehind 1 = .ok (.istore_n 3, 1) := by decide +kernel
theorem dX9_linkBehind_2 : decode cX9_linkBehind 2 = .ok (.iconst 0, 1) := by decide +kernel
theorem dX9_linkBehind_3 : decode cX9_linkBehind 3 = .ok (.istore 4, 2) := by decide +kernel
theorem dX9_linkBehind_5 : decode cX9_linkBehind 5 = .ok (.iload 4, 2) := by decide +kernel
theorem dX9_linkBehind_7 : decode cX9_linkBehind 7 = .ok (.iconst 2, 1) := by decide +kernel
theorem dX9_linkBehind_8 : decode cX9_linkBehind 8 = .ok (.aload_n 0, 1) := by decide +kernel
theorem dX9_linkBehind_9 : decode cX9_linkBehind 9 = .ok (.getfield 101, 3) := by decide +kernel
theorem dX9_linkBehind_12 : decode cX9_linkBehind 12 = .ok (.imul, 1) := by decide +kernel
theorem dX9_linkBehind_13 : decode cX9_linkBehind 13 = .ok (.if_icmp .ge 89, 3) := by decide +kernel
theorem dX9_linkBehind_16 : decode cX9_linkBehind 16 = .ok (.aload_n 0, 1) := by decide +kernel
theorem dX9_linkBehind_17 : decode cX9_linkBehind 17 = .ok (.iload 4, 2) := by decide +kernel
theorem dX9_linkBehind_19 : decode cX9_linkBehind 19 = .ok (.invokevirtual 148, 3) := by decide +kernel
theorem dX9_linkBehind_22 : decode cX9_linkBehind 22 = .ok (.ifCond .eq 17, 3) := by decide +kernel
theorem dX9_linkBehind_25 : decode cX9_linkBehind 25 = .ok (.aload_n 0, 1) := by decide +kernel
theorem dX9_linkBehind_26 : decode cX9_linkBehind 26 = .ok (.iload 4, 2) := by decide +kernel
theorem dX9_linkBehind_28 : decode cX9_linkBehind 28 = .ok (.invokevirtual 151, 3) := by decide +kernel
theorem dX9_linkBehind_31 : decode cX9_linkBehind 31 = .ok (.iload_n 1, 1) := by decide +kernel
theorem dX9_linkBehind_32 : decode cX9_linkBehind 32 = .ok (.if_icmp .ne 7, 3) := by decide +kernel
theorem dX9_linkBehind_35 : decode cX9_linkBehind 35 = .ok (.iconst 1, 1) := by decide +kernel
theorem dX9_linkBehind_36 : decode cX9_linkBehind 36 = .ok (.goto 4, 3) := by decide +kernel
theorem dX9_linkBehind_39 : decode cX9_linkBehind 39 = .ok (.iconst 0, 1) := by decide +kernel
theorem dX9_linkBehind_40 : decode cX9_linkBehind 40 = .ok (.istore 5, 2) := by decide +kernel
theorem dX9_linkBehind_42 : decode cX9_linkBehind 42 = .ok (.iload_n 2, 1) := by decide +kernel
theorem dX9_linkBehind_43 : decode cX9_linkBehind 43 = .ok (.iconst (-1), 1) := by decide +kernel
theorem dX9_linkBehind_44 : decode cX9_linkBehind 44 = .ok (.if_icmp .eq 13, 3) := by decide +kernel
theorem dX9_linkBehind_47 : decode cX9_linkBehind 47 = .ok (.aload_n 0, 1) := by decide +kernel
theorem dX9_linkBehind_48 : decode cX9_linkBehind 48 = .ok (.iload_n 2, 1) := by decide +kernel
theorem dX9_linkBehind_49 : decode cX9_linkBehind 49 = .ok (.iload 4, 2) := by decide +kernel
theorem dX9_linkBehind_51 : decode cX9_linkBehind 51 = .ok (.invokevirtual 155, 3) := by decide +kernel
theorem dX9_linkBehind_54 : decode cX9_linkBehind 54 = .ok (.ifCond .eq 7, 3) := by decide +kernel
theorem dX9_linkBehind_57 : decode cX9_linkBehind 57 = .ok (.iconst 1, 1) := by decide +kernel
theorem dX9_linkBehind_58 : decode cX9_linkBehind 58 = .ok (.goto 4, 3) := by decide +kernel
theorem dX9_linkBehind_61 : decode cX9_linkBehind 61 = .ok (.iconst 0, 1) := by decide +kernel
theorem dX9_linkBehind_62 : decode cX9_linkBehind 62 = .ok (.istore 6, 2) := by decide +kernel
theorem dX9_linkBehind_64 : decode cX9_linkBehind 64 = .ok (.iload 5, 2) := by decide +kernel
theorem dX9_linkBehind_66 : decode cX9_linkBehind 66 = .ok (.ifCond .eq 28, 3) := by decide +kernel
theorem dX9_linkBehind_69 : decode cX9_linkBehind 69 = .ok (.iload 6, 2) := by decide +kernel
theorem dX9_linkBehind_71 : decode cX9_linkBehind 71 = .ok (.ifCond .eq 23, 3) := by decide +kernel
theorem dX9_linkBehind_74 : decode cX9_linkBehind 74 = .ok (.iload_n 3, 1) := by decide +kernel
theorem dX9_linkBehind_75 : decode cX9_linkBehind 75 = .ok (.iconst (-1), 1) := by decide +kernel
theorem dX9_linkBehind_76 : decode cX9_linkBehind 76 = .ok (.if_icmp .eq 13, 3) := by decide +kernel
theorem dX9_linkBehind_79 : decode cX9_linkBehind 79 = .ok (.aload_n 0, 1) := by decide +kernel
theorem dX9_linkBehind_80 : decode cX9_linkBehind 80 = .ok (.iload 4, 2) := by decide +kernel
theorem dX9_linkBehind_82 : decode cX9_linkBehind 82 = .ok (.iload_n 3, 1) := by decide +kernel
theorem dX9_linkBehind_83 : decode cX9_linkBehind 83 = .ok (.invokevirtual 155, 3) := by decide +kernel
theorem dX9_linkBehind_86 : decode cX9_linkBehind 86 = .ok (.ifCond .eq 8, 3) := by decide +kernel
theorem dX9_linkBehind_89 : decode cX9_linkBehind 89 = .ok (.iload 4, 2) := by decide +kernel
theorem dX9_linkBehind_91 : decode cX9_linkBehind 91 = .ok (.goto 4, 3) := by decide +kernel
theorem dX9_linkBehind_94 : decode cX9_linkBehind 94 = .ok (.iload_n 3, 1) := by decide +kernel
theorem dX9_linkBehind_95 : decode cX9_linkBehind 95 = .ok (.istore_n 3, 1) := by decide +kernel
theorem dX9_linkBehind_96 : decode cX9_linkBehind 96 = .ok (.iinc 4 1, 3) := by decide +kernel
theorem dX9_linkBehind_99 : decode cX9_linkBehind 99 = .ok (.goto (-94), 3) := by decide +kernel
theorem dX9_linkBehind_102 : decode cX9_linkBehind 102 = .ok (.iload_n 3, 1) := by decide +kernel
theorem dX9_linkBehind_103 : decode cX9_linkBehind 103 = .ok (.ireturn, 1) := by decide +kernel
theorem dX9_comesBefore_0 : decode cX9_comesBefore 0 = .ok (.aload_n 0, 1) := by decide +kernel
theorem dX9_comesBefore_1 : decode cX9_comesBefore 1 = .ok (.iload_n 1, 1) := by decide +kernel
theorem dX9_comesBefore_2 : decode cX9_comesBefore 2 = .ok (.invokevirtual 159, 3) := by decide +kernel
theorem dX9_comesBefore_5 : decode cX9_comesBefore 5 = .ok (.aload_n 0, 1) := by decide +kernel
theorem dX9_comesBefore_6 : decode cX9_comesBefore 6 = .ok (.iload_n 2, 1) := by decide +kernel
theorem dX9_comesBefore_7 : decode cX9_comesBefore 7 = .ok (.invokevirtual 159, 3) := by decide +kernel
theorem dX9_comesBefore_10 : decode cX9_comesBefore 10 = .ok (.if_icmp .ne 16, 3) := by decide +kernel
theorem dX9_comesBefore_13 : decode cX9_comesBefore 13 = .ok (.iload_n 1, 1) := by decide +kernel
theorem dX9_comesBefore_14 : decode cX9_comesBefore 14 = .ok (.iload_n 2, 1) := by decide +kernel
theorem dX9_comesBefore_15 : decode cX9_comesBefore 15 = .ok (.if_icmp .ge 7, 3) := by decide +kernel
theorem dX9_comesBefore_18 : decode cX9_comesBefore 18 = .ok (.iconst 1, 1) := by decide +kernel
theorem dX9_comesBefore_19 : decode cX9_comesBefore 19 = .ok (.goto 25, 3) := by decide +kernel
theorem dX9_comesBefore_22 : decode cX9_comesBefore 22 = .ok (.iconst 0, 1) := by decide +kernel
theorem dX9_comesBefore_23 : decode cX9_comesBefore 23 = .ok (.goto 21, 3) := by decide +kernel
theorem dX9_comesBefore_26 : decode cX9_comesBefore 26 = .ok (.aload_n 0, 1) := by decide +kernel
theorem dX9_comesBefore_27 : decode cX9_comesBefore 27 = .ok (.iload_n 1, 1) := by decide +kernel
theorem dX9_comesBefore_28 : decode cX9_comesBefore 28 = .ok (.invokevirtual 159, 3) := by decide +kernel
theorem dX9_comesBefore_31 : decode cX9_comesBefore 31 = .ok (.aload_n 0, 1) := by decide +kernel
theorem dX9_comesBefore_32 : decode cX9_comesBefore 32 = .ok (.iload_n 2, 1) := by decide +kernel
theorem dX9_comesBefore_33 : decode cX9_comesBefore 33 = .ok (.invokevirtual 159, 3) := by decide +kernel
theorem dX9_comesBefore_36 : decode cX9_comesBefore 36 = .ok (.if_icmp .ge 7, 3) := by decide +kernel
theorem dX9_comesBefore_39 : decode cX9_comesBefore 39 = .ok (.iconst 1, 1) := by decide +kernel
theorem dX9_comesBefore_40 : decode cX9_comesBefore 40 = .ok (.goto 4, 3) := by decide +kernel
theorem dX9_comesBefore_43 : decode cX9_comesBefore 43 = .ok (.iconst 0, 1) := by decide +kernel
theorem dX9_comesBefore_44 : decode cX9_comesBefore 44 = .ok (.ireturn, 1) := by decide +kernel
theorem dX9_number_0 : decode cX9_number 0 = .ok (.iconst 0, 1) := by decide +kernel
theorem dX9_number_1 : decode cX9_number 1 = .ok (.istore_n 1, 1) := by decide +kernel
theorem dX9_number_2 : decode cX9_number 2 = .ok (.iload_n 1, 1) := by decide +kernel
theorem dX9_number_3 : decode cX9_number 3 = .ok (.bipush 12, 2) := by decide +kernel
theorem dX9_number_5 : decode cX9_number 5 = .ok (.if_icmp .ge 16, 3) := by decide +kernel
theorem dX9_number_8 : decode cX9_number 8 = .ok (.aload_n 0, 1) := by decide +kernel
theorem dX9_number_9 : decode cX9_number 9 = .ok (.getfield 30, 3) := by decide +kernel
theorem dX9_number_12 : decode cX9_number 12 = .ok (.iload_n 1, 1) := by decide +kernel
theorem dX9_number_13 : decode cX9_number 13 = .ok (.iconst 0, 1) := by decide +kernel
theorem dX9_number_14 : decode cX9_number 14 = .ok (.iastore, 1) := by decide +kernel
theorem dX9_number_15 : decode cX9_number 15 = .ok (.iinc 1 1, 3) := by decide +kernel
theorem dX9_number_18 : decode cX9_number 18 = .ok (.goto (-16), 3) := by decide +kernel
theorem dX9_number_21 : decode cX9_number 21 = .ok (.aload_n 0, 1) := by decide +kernel
theorem dX9_number_22 : decode cX9_number 22 = .ok (.getfield 30, 3) := by decide +kernel
theorem dX9_number_25 : decode cX9_number 25 = .ok (.aload_n 0, 1) := by decide +kernel
theorem dX9_number_26 : decode cX9_number 26 = .ok (.getfield 7, 3) := by decide +kernel
theorem dX9_number_29 : decode cX9_number 29 = .ok (.iconst 1, 1) := by decide +kernel
theorem dX9_number_30 : decode cX9_number 30 = .ok (.isub, 1) := by decide +kernel
theorem dX9_number_31 : decode cX9_number 31 = .ok (.iconst 1, 1) := by decide +kernel
theorem dX9_number_32 : decode cX9_number 32 = .ok (.iastore, 1) := by decide +kernel
theorem dX9_number_33 : decode cX9_number 33 = .ok (.iconst 0, 1) := by decide +kernel
theorem dX9_number_34 : decode cX9_number 34 = .ok (.istore_n 1, 1) := by decide +kernel
theorem dX9_number_35 : decode cX9_number 35 = .ok (.iload_n 1, 1) := by decide +kernel
theorem dX9_number_36 : decode cX9_number 36 = .ok (.aload_n 0, 1) := by decide +kernel
theorem dX9_number_37 : decode cX9_number 37 = .ok (.getfield 145, 3) := by decide +kernel
theorem dX9_number_40 : decode cX9_number 40 = .ok (.if_icmp .ge 83, 3) := by decide +kernel
theorem dX9_number_43 : decode cX9_number 43 = .ok (.aload_n 0, 1) := by decide +kernel
theorem dX9_number_44 : decode cX9_number 44 = .ok (.getfield 63, 3) := by decide +kernel
theorem dX9_number_47 : decode cX9_number 47 = .ok (.iload_n 1, 1) := by decide +kernel
theorem dX9_number_48 : decode cX9_number 48 = .ok (.iaload, 1) := by decide +kernel
theorem dX9_number_49 : decode cX9_number 49 = .ok (.istore_n 2, 1) := by decide +kernel
theorem dX9_number_50 : decode cX9_number 50 = .ok (.iload_n 2, 1) := by decide +kernel
theorem dX9_number_51 : decode cX9_number 51 = .ok (.aload_n 0, 1) := by decide +kernel
theorem dX9_number_52 : decode cX9_number 52 = .ok (.getfield 7, 3) := by decide +kernel
theorem dX9_number_55 : decode cX9_number 55 = .ok (.iconst 1, 1) := by decide +kernel
theorem dX9_number_56 : decode cX9_number 56 = .ok (.isub, 1) := by decide +kernel
theorem dX9_number_57 : decode cX9_number 57 = .ok (.if_icmp .eq 60, 3) := by decide +kernel
theorem dX9_number_60 : decode cX9_number 60 = .ok (.iconst 0, 1) := by decide +kernel
theorem dX9_number_61 : decode cX9_number 61 = .ok (.istore_n 3, 1) := by decide +kernel
theorem dX9_number_62 : decode cX9_number 62 = .ok (.aload_n 0, 1) := by decide +kernel
theorem dX9_number_63 : decode cX9_number 63 = .ok (.iload_n 2, 1) := by decide +kernel
theorem dX9_number_64 : decode cX9_number 64 = .ok (.iconst (-1), 1) := by decide +kernel
theorem dX9_number_65 : decode cX9_number 65 = .ok (.invokevirtual 162, 3) := by decide +kernel
theorem dX9_number_68 : decode cX9_number 68 = .ok (.istore 4, 2) := by decide +kernel
theorem dX9_number_70 : decode cX9_number 70 = .ok (.iload 4, 2) := by decide +kernel
theorem dX9_number_72 : decode cX9_number 72 = .ok (.iconst (-1), 1) := by decide +kernel
theorem dX9_number_73 : decode cX9_number 73 = .ok (.if_icmp .eq 37, 3) := by decide +kernel
theorem dX9_number_76 : decode cX9_number 76 = .ok (.aload_n 0, 1) := by decide +kernel
theorem dX9_number_77 : decode cX9_number 77 = .ok (.getfield 33, 3) := by decide +kernel
theorem dX9_number_80 : decode cX9_number 80 = .ok (.iload 4, 2) := by decide +kernel
theorem dX9_number_82 : decode cX9_number 82 = .ok (.iload_n 3, 1) := by decide +kernel
theorem dX9_number_83 : decode cX9_number 83 = .ok (.iastore, 1) := by decide +kernel
theorem dX9_number_84 : decode cX9_number 84 = .ok (.iload_n 3, 1) := by decide +kernel
theorem dX9_number_85 : decode cX9_number 85 = .ok (.aload_n 0, 1) := by decide +kernel
theorem dX9_number_86 : decode cX9_number 86 = .ok (.getfield 30, 3) := by decide +kernel
theorem dX9_number_89 : decode cX9_number 89 = .ok (.aload_n 0, 1) := by decide +kernel
theorem dX9_number_90 : decode cX9_number 90 = .ok (.iload 4, 2) := by decide +kernel
theorem dX9_number_92 : decode cX9_number 92 = .ok (.invokevirtual 165, 3) := by decide +kernel
theorem dX9_number_95 : decode cX9_number 95 = .ok (.iaload, 1) := by decide +kernel
theorem dX9_number_96 : decode cX9_number 96 = .ok (.iadd, 1) := by decide +kernel
theorem dX9_number_97 : decode cX9_number 97 = .ok (.istore_n 3, 1) := by decide +kernel
theorem dX9_number_98 : decode cX9_number 98 = .ok (.aload_n 0, 1) := by decide +kernel
theorem dX9_number_99 : decode cX9_number 99 = .ok (.iload_n 2, 1) := by decide +kernel
theorem dX9_number_100 : decode cX9_number 100 = .ok (.iload 4, 2) := by decide +kernel
theorem dX9_number_102 : decode cX9_number 102 = .ok (.invokevirtual 162, 3) := by decide +kernel
theorem dX9_number_105 : decode cX9_number 105 = .ok (.istore 4, 2) := by decide +kernel
theorem dX9_number_107 : decode cX9_number 107 = .ok (.goto (-37), 3) := by decide +kernel
theorem dX9_number_110 : decode cX9_number 110 = .ok (.aload_n 0, 1) := by decide +kernel
theorem dX9_number_111 : decode cX9_number 111 = .ok (.getfield 30, 3) := by decide +kernel
theorem dX9_number_114 : decode cX9_number 114 = .ok (.iload_n 2, 1) := by decide +kernel
theorem dX9_number_115 : decode cX9_number 115 = .ok (.iload_n 3, 1) := by decide +kernel
theorem dX9_number_116 : decode cX9_number 116 = .ok (.iastore, 1) := by decide +kernel
theorem dX9_number_117 : decode cX9_number 117 = .ok (.iinc 1 1, 3) := by decide +kernel
theorem dX9_number_120 : decode cX9_number 120 = .ok (.goto (-85), 3) := by decide +kernel
theorem dX9_number_123 : decode cX9_number 123 = .ok (.return_, 1) := by decide +kernel
theorem dX9_isHeavier_0 : decode cX9_isHeavier 0 = .ok (.aload_n 0, 1) := by decide +kernel
theorem dX9_isHeavier_1 : decode cX9_isHeavier 1 = .ok (.getfield 20, 3) := by decide +kernel
theorem dX9_isHeavier_4 : decode cX9_isHeavier 4 = .ok (.iload_n 1, 1) := by decide +kernel
theorem dX9_isHeavier_5 : decode cX9_isHeavier 5 = .ok (.iconst 2, 1) := by decide +kernel
theorem dX9_isHeavier_6 : decode cX9_isHeavier 6 = .ok (.idiv, 1) := by decide +kernel
theorem dX9_isHeavier_7 : decode cX9_isHeavier 7 = .ok (.iaload, 1) := by decide +kernel
theorem dX9_isHeavier_8 : decode cX9_isHeavier 8 = .ok (.istore_n 3, 1) := by decide +kernel
theorem dX9_isHeavier_9 : decode cX9_isHeavier 9 = .ok (.aload_n 0, 1) := by decide +kernel
theorem dX9_isHeavier_10 : decode cX9_isHeavier 10 = .ok (.getfield 20, 3) := by decide +kernel
theorem dX9_isHeavier_13 : decode cX9_isHeavier 13 = .ok (.iload_n 2, 1) := by decide +kernel
theorem dX9_isHeavier_14 : decode cX9_isHeavier 14 = .ok (.iconst 2, 1) := by decide +kernel
theorem dX9_isHeavier_15 : decode cX9_isHeavier 15 = .ok (.idiv, 1) := by decide +kernel
theorem dX9_isHeavier_16 : decode cX9_isHeavier 16 = .ok (.iaload, 1) := by decide +kernel
theorem dX9_isHeavier_17 : decode cX9_isHeavier 17 = .ok (.istore 4, 2) := by decide +kernel
theorem dX9_isHeavier_19 : decode cX9_isHeavier 19 = .ok (.iload_n 3, 1) := by decide +kernel
theorem dX9_isHeavier_20 : decode cX9_isHeavier 20 = .ok (.iload 4, 2) := by decide +kernel
theorem dX9_isHeavier_22 : decode cX9_isHeavier 22 = .ok (.if_icmp .ne 12, 3) := by decide +kernel
theorem dX9_isHeavier_25 : decode cX9_isHeavier 25 = .ok (.aload_n 0, 1) := by decide +kernel
theorem dX9_isHeavier_26 : decode cX9_isHeavier 26 = .ok (.iload_n 1, 1) := by decide +kernel
theorem dX9_isHeavier_27 : decode cX9_isHeavier 27 = .ok (.iload_n 2, 1) := by decide +kernel
theorem dX9_isHeavier_28 : decode cX9_isHeavier 28 = .ok (.invokevirtual 155, 3) := by decide +kernel
theorem dX9_isHeavier_31 : decode cX9_isHeavier 31 = .ok (.goto 14, 3) := by decide +kernel
theorem dX9_isHeavier_34 : decode cX9_isHeavier 34 = .ok (.iload_n 3, 1) := by decide +kernel
theorem dX9_isHeavier_35 : decode cX9_isHeavier 35 = .ok (.iload 4, 2) := by decide +kernel
theorem dX9_isHeavier_37 : decode cX9_isHeavier 37 = .ok (.if_icmp .le 7, 3) := by decide +kernel
theorem dX9_isHeavier_40 : decode cX9_isHeavier 40 = .ok (.iconst 1, 1) := by decide +kernel
theorem dX9_isHeavier_41 : decode cX9_isHeavier 41 = .ok (.goto 4, 3) := by decide +kernel
theorem dX9_isHeavier_44 : decode cX9_isHeavier 44 = .ok (.iconst 0, 1) := by decide +kernel
theorem dX9_isHeavier_45 : decode cX9_isHeavier 45 = .ok (.ireturn, 1) := by decide +kernel
theorem dX9_join_0 : decode cX9_join 0 = .ok (.aload_n 0, 1) := by decide +kernel
theorem dX9_join_1 : decode cX9_join 1 = .ok (.getfield 66, 3) := by decide +kernel
theorem dX9_join_4 : decode cX9_join 4 = .ok (.iload_n 2, 1) := by decide +kernel
theorem dX9_join_5 : decode cX9_join 5 = .ok (.iaload, 1) := by decide +kernel
theorem dX9_join_6 : decode cX9_join 6 = .ok (.istore_n 3, 1) := by decide +kernel
theorem dX9_join_7 : decode cX9_join 7 = .ok (.aload_n 0, 1) := by decide +kernel
theorem dX9_join_8 : decode cX9_join 8 = .ok (.getfield 66, 3) := by decide +kernel
theorem dX9_join_11 : decode cX9_join 11 = .ok (.iload_n 1, 1) := by decide +kernel
theorem dX9_join_12 : decode cX9_join 12 = .ok (.iaload, 1) := by decide +kernel
theorem dX9_join_13 : decode cX9_join 13 = .ok (.istore 4, 2) := by decide +kernel
theorem dX9_join_15 : decode cX9_join 15 = .ok (.iconst 0, 1) := by decide +kernel
theorem dX9_join_16 : decode cX9_join 16 = .ok (.istore 5, 2) := by decide +kernel
theorem dX9_join_18 : decode cX9_join 18 = .ok (.iload 5, 2) := by decide +kernel
theorem dX9_join_20 : decode cX9_join 20 = .ok (.aload_n 0, 1) := by decide +kernel
theorem dX9_join_21 : decode cX9_join 21 = .ok (.getfield 7, 3) := by decide +kernel
theorem dX9_join_24 : decode cX9_join 24 = .ok (.if_icmp .ge 39, 3) := by decide +kernel
theorem dX9_join_27 : decode cX9_join 27 = .ok (.aload_n 0, 1) := by decide +kernel
theorem dX9_join_28 : decode cX9_join 28 = .ok (.getfield 66, 3) := by decide +kernel
theorem dX9_join_31 : decode cX9_join 31 = .ok (.iload 5, 2) := by decide +kernel
theorem dX9_join_33 : decode cX9_join 33 = .ok (.aload_n 0, 1) := by decide +kernel
theorem dX9_join_34 : decode cX9_join 34 = .ok (.getfield 66, 3) := by decide +kernel
theorem dX9_join_37 : decode cX9_join 37 = .ok (.iload 5, 2) := by decide +kernel
theorem dX9_join_39 : decode cX9_join 39 = .ok (.iaload, 1) := by decide +kernel
theorem dX9_join_40 : decode cX9_join 40 = .ok (.iload_n 3, 1) := by decide +kernel
theorem dX9_join_41 : decode cX9_join 41 = .ok (.if_icmp .ne 8, 3) := by decide +kernel
theorem dX9_join_44 : decode cX9_join 44 = .ok (.iload 4, 2) := by decide +kernel
theorem dX9_join_46 : decode cX9_join 46 = .ok (.goto 10, 3) := by decide +kernel
theorem dX9_join_49 : decode cX9_join 49 = .ok (.aload_n 0, 1) := by decide +kernel
theorem dX9_join_50 : decode cX9_join 50 = .ok (.getfield 66, 3) := by decide +kernel
theorem dX9_join_53 : decode cX9_join 53 = .ok (.iload 5, 2) := by decide +kernel
theorem dX9_join_55 : decode cX9_join 55 = .ok (.iaload, 1) := by decide +kernel
theorem dX9_join_56 : decode cX9_join 56 = .ok (.iastore, 1) := by decide +kernel
theorem dX9_join_57 : decode cX9_join 57 = .ok (.iinc 5 1, 3) := by decide +kernel
theorem dX9_join_60 : decode cX9_join 60 = .ok (.goto (-42), 3) := by decide +kernel
theorem dX9_join_63 : decode cX9_join 63 = .ok (.return_, 1) := by decide +kernel
theorem dX9_growTree_0 : decode cX9_growTree 0 = .ok (.iconst 0, 1) := by decide +kernel
theorem dX9_growTree_1 : decode cX9_growTree 1 = .ok (.istore_n 1, 1) := by decide +kernel
theorem dX9_growTree_2 : decode cX9_growTree 2 = .ok (.iload_n 1, 1) := by decide +kernel
theorem dX9_growTree_3 : decode cX9_growTree 3 = .ok (.aload_n 0, 1) := by decide +kernel
theorem dX9_growTree_4 : decode cX9_growTree 4 = .ok (.getfield 7, 3) := by decide +kernel
theorem dX9_growTree_7 : decode cX9_growTree 7 = .ok (.if_icmp .ge 16, 3) := by decide +kernel
theorem dX9_growTree_10 : decode cX9_growTree 10 = .ok (.aload_n 0, 1) := by decide +kernel
theorem dX9_growTree_11 : decode cX9_growTree 11 = .ok (.getfield 66, 3) := by decide +kernel
theorem dX9_growTree_14 : decode cX9_growTree 14 = .ok (.iload_n 1, 1) := by decide +kernel
theorem dX9_growTree_15 : decode cX9_growTree 15 = .ok (.iload_n 1, 1) := by decide +kernel
theorem dX9_growTree_16 : decode cX9_growTree 16 = .ok (.iastore, 1) := by decide +kernel
theorem dX9_growTree_17 : decode cX9_growTree 17 = .ok (.iinc 1 1, 3) := by decide +kernel
theorem dX9_growTree_20 : decode cX9_growTree 20 = .ok (.goto (-18), 3) := by decide +kernel
theorem dX9_growTree_23 : decode cX9_growTree 23 = .ok (.aload_n 0, 1) := by decide +kernel
theorem dX9_growTree_24 : decode cX9_growTree 24 = .ok (.iconst 0, 1) := by decide +kernel
theorem dX9_growTree_25 : decode cX9_growTree 25 = .ok (.aload_n 0, 1) := by decide +kernel
theorem dX9_growTree_26 : decode cX9_growTree 26 = .ok (.getfield 7, 3) := by decide +kernel
theorem dX9_growTree_29 : decode cX9_growTree 29 = .ok (.iconst 1, 1) := by decide +kernel
theorem dX9_growTree_30 : decode cX9_growTree 30 = .ok (.isub, 1) := by decide +kernel
theorem dX9_growTree_31 : decode cX9_growTree 31 = .ok (.invokevirtual 168, 3) := by decide +kernel
theorem dX9_growTree_34 : decode cX9_growTree 34 = .ok (.iconst 0, 1) := by decide +kernel
theorem dX9_growTree_35 : decode cX9_growTree 35 = .ok (.istore_n 1, 1) := by decide +kernel
theorem dX9_growTree_36 : decode cX9_growTree 36 = .ok (.iload_n 1, 1) := by decide +kernel
theorem dX9_growTree_37 : decode cX9_growTree 37 = .ok (.bipush 48, 2) := by decide +kernel
theorem dX9_growTree_39 : decode cX9_growTree 39 = .ok (.if_icmp .ge 23, 3) := by decide +kernel
theorem dX9_growTree_42 : decode cX9_growTree 42 = .ok (.aload_n 0, 1) := by decide +kernel
theorem dX9_growTree_43 : decode cX9_growTree 43 = .ok (.getfield 39, 3) := by decide +kernel
theorem dX9_growTree_46 : decode cX9_growTree 46 = .ok (.iload_n 1, 1) := by decide +kernel
theorem dX9_growTree_47 : decode cX9_growTree 47 = .ok (.iconst 0, 1) := by decide +kernel
theorem dX9_growTree_48 : decode cX9_growTree 48 = .ok (.bastore, 1) := by decide +kernel
theorem dX9_growTree_49 : decode cX9_growTree 49 = .ok (.aload_n 0, 1) := by decide +kernel
theorem dX9_growTree_50 : decode cX9_growTree 50 = .ok (.getfield 75, 3) := by decide +kernel
theorem dX9_growTree_53 : decode cX9_growTree 53 = .ok (.iload_n 1, 1) := by decide +kernel
theorem dX9_growTree_54 : decode cX9_growTree 54 = .ok (.iconst 0, 1) := by decide +kernel
theorem dX9_growTree_55 : decode cX9_growTree 55 = .ok (.bastore, 1) := by decide +kernel
theorem dX9_growTree_56 : decode cX9_growTree 56 = .ok (.iinc 1 1, 3) := by decide +kernel
theorem dX9_growTree_59 : decode cX9_growTree 59 = .ok (.goto (-23), 3) := by decide +kernel
theorem dX9_growTree_62 : decode cX9_growTree 62 = .ok (.aload_n 0, 1) := by decide +kernel
theorem dX9_growTree_63 : decode cX9_growTree 63 = .ok (.invokevirtual 171, 3) := by decide +kernel
theorem dX9_growTree_66 : decode cX9_growTree 66 = .ok (.istore_n 1, 1) := by decide +kernel
theorem dX9_growTree_67 : decode cX9_growTree 67 = .ok (.iload_n 1, 1) := by decide +kernel
theorem dX9_growTree_68 : decode cX9_growTree 68 = .ok (.iconst (-1), 1) := by decide +kernel
theorem dX9_growTree_69 : decode cX9_growTree 69 = .ok (.if_icmp .eq 62, 3) := by decide +kernel
theorem dX9_growTree_72 : decode cX9_growTree 72 = .ok (.aload_n 0, 1) := by decide +kernel
theorem dX9_growTree_73 : decode cX9_growTree 73 = .ok (.getfield 75, 3) := by decide +kernel
theorem dX9_growTree_76 : decode cX9_growTree 76 = .ok (.iload_n 1, 1) := by decide +kernel
theorem dX9_growTree_77 : decode cX9_growTree 77 = .ok (.iconst 1, 1) := by decide +kernel
theorem dX9_growTree_78 : decode cX9_growTree 78 = .ok (.bastore, 1) := by decide +kernel
theorem dX9_growTree_79 : decode cX9_growTree 79 = .ok (.aload_n 0, 1) := by decide +kernel
theorem dX9_growTree_80 : decode cX9_growTree 80 = .ok (.getfield 66, 3) := by decide +kernel
theorem dX9_growTree_83 : decode cX9_growTree 83 = .ok (.aload_n 0, 1) := by decide +kernel
theorem dX9_growTree_84 : decode cX9_growTree 84 = .ok (.iload_n 1, 1) := by decide +kernel
theorem dX9_growTree_85 : decode cX9_growTree 85 = .ok (.invokevirtual 151, 3) := by decide +kernel
theorem dX9_growTree_88 : decode cX9_growTree 88 = .ok (.iaload, 1) := by decide +kernel
theorem dX9_growTree_89 : decode cX9_growTree 89 = .ok (.aload_n 0, 1) := by decide +kernel
theorem dX9_growTree_90 : decode cX9_growTree 90 = .ok (.getfield 66, 3) := by decide +kernel
theorem dX9_growTree_93 : decode cX9_growTree 93 = .ok (.aload_n 0, 1) := by decide +kernel
theorem dX9_growTree_94 : decode cX9_growTree 94 = .ok (.iload_n 1, 1) := by decide +kernel
theorem dX9_growTree_95 : decode cX9_growTree 95 = .ok (.invokevirtual 165, 3) := by decide +kernel
theorem dX9_growTree_98 : decode cX9_growTree 98 = .ok (.iaload, 1) := by decide +kernel
theorem dX9_growTree_99 : decode cX9_growTree 99 = .ok (.if_icmp .eq 24, 3) := by decide +kernel
theorem dX9_growTree_102 : decode cX9_growTree 102 = .ok (.aload_n 0, 1) := by decide +kernel
theorem dX9_growTree_103 : decode cX9_growTree 103 = .ok (.getfield 39, 3) := by decide +kernel
theorem dX9_growTree_106 : decode cX9_growTree 106 = .ok (.iload_n 1, 1) := by decide +kernel
theorem dX9_growTree_107 : decode cX9_growTree 107 = .ok (.iconst 1, 1) := by decide +kernel
theorem dX9_growTree_108 : decode cX9_growTree 108 = .ok (.bastore, 1) := by decide +kernel
theorem dX9_growTree_109 : decode cX9_growTree 109 = .ok (.aload_n 0, 1) := by decide +kernel
theorem dX9_growTree_110 : decode cX9_growTree 110 = .ok (.aload_n 0, 1) := by decide +kernel
theorem dX9_growTree_111 : decode cX9_growTree 111 = .ok (.iload_n 1, 1) := by decide +kernel
theorem dX9_growTree_112 : decode cX9_growTree 112 = .ok (.invokevirtual 151, 3) := by decide +kernel
theorem dX9_growTree_115 : decode cX9_growTree 115 = .ok (.aload_n 0, 1) := by decide +kernel
theorem dX9_growTree_116 : decode cX9_growTree 116 = .ok (.iload_n 1, 1) := by decide +kernel
theorem dX9_growTree_117 : decode cX9_growTree 117 = .ok (.invokevirtual 165, 3) := by decide +kernel
theorem dX9_growTree_120 : decode cX9_growTree 120 = .ok (.invokevirtual 168, 3) := by decide +kernel
theorem dX9_growTree_123 : decode cX9_growTree 123 = .ok (.aload_n 0, 1) := by decide +kernel
theorem dX9_growTree_124 : decode cX9_growTree 124 = .ok (.invokevirtual 171, 3) := by decide +kernel
theorem dX9_growTree_127 : decode cX9_growTree 127 = .ok (.istore_n 1, 1) := by decide +kernel
theorem dX9_growTree_128 : decode cX9_growTree 128 = .ok (.goto (-61), 3) := by decide +kernel
theorem dX9_growTree_131 : decode cX9_growTree 131 = .ok (.return_, 1) := by decide +kernel
theorem dX9_heaviest_0 : decode cX9_heaviest 0 = .ok (.iconst (-1), 1) := by decide +kernel
theorem dX9_heaviest_1 : decode cX9_heaviest 1 = .ok (.istore_n 1, 1) := by decide +kernel
theorem dX9_heaviest_2 : decode cX9_heaviest 2 = .ok (.iconst 0, 1) := by decide +kernel
theorem dX9_heaviest_3 : decode cX9_heaviest 3 = .ok (.istore_n 2, 1) := by decide +kernel
theorem dX9_heaviest_4 : decode cX9_heaviest 4 = .ok (.iload_n 2, 1) := by decide +kernel
theorem dX9_heaviest_5 : decode cX9_heaviest 5 = .ok (.iconst 2, 1) := by decide +kernel
theorem dX9_heaviest_6 : decode cX9_heaviest 6 = .ok (.aload_n 0, 1) := by decide +kernel
theorem dX9_heaviest_7 : decode cX9_heaviest 7 = .ok (.getfield 101, 3) := by decide +kernel
theorem dX9_heaviest_10 : decode cX9_heaviest 10 = .ok (.imul, 1) := by decide +kernel
theorem dX9_heaviest_11 : decode cX9_heaviest 11 = .ok (.if_icmp .ge 46, 3) := by decide +kernel
theorem dX9_heaviest_14 : decode cX9_heaviest 14 = .ok (.aload_n 0, 1) := by decide +kernel
theorem dX9_heaviest_15 : decode cX9_heaviest 15 = .ok (.iload_n 2, 1) := by decide +kernel
theorem dX9_heaviest_16 : decode cX9_heaviest 16 = .ok (.invokevirtual 148, 3) := by decide +kernel
theorem dX9_heaviest_19 : decode cX9_heaviest 19 = .ok (.ifCond .eq 30, 3) := by decide +kernel
theorem dX9_heaviest_22 : decode cX9_heaviest 22 = .ok (.aload_n 0, 1) := by decide +kernel
theorem dX9_heaviest_23 : decode cX9_heaviest 23 = .ok (.getfield 75, 3) := by decide +kernel
theorem dX9_heaviest_26 : decode cX9_heaviest 26 = .ok (.iload_n 2, 1) := by decide +kernel
theorem dX9_heaviest_27 : decode cX9_heaviest 27 = .ok (.baload, 1) := by decide +kernel
theorem dX9_heaviest_28 : decode cX9_heaviest 28 = .ok (.ifCond .ne 21, 3) := by decide +kernel
theorem dX9_heaviest_31 : decode cX9_heaviest 31 = .ok (.iload_n 1, 1) := by decide +kernel
theorem dX9_heaviest_32 : decode cX9_heaviest 32 = .ok (.iconst (-1), 1) := by decide +kernel
theorem dX9_heaviest_33 : decode cX9_heaviest 33 = .ok (.if_icmp .eq 12, 3) := by decide +kernel
theorem dX9_heaviest_36 : decode cX9_heaviest 36 = .ok (.aload_n 0, 1) := by decide +kernel
theorem dX9_heaviest_37 : decode cX9_heaviest 37 = .ok (.iload_n 2, 1) := by decide +kernel
theorem dX9_heaviest_38 : decode cX9_heaviest 38 = .ok (.iload_n 1, 1) := by decide +kernel
theorem dX9_heaviest_39 : decode cX9_heaviest 39 = .ok (.invokevirtual 174, 3) := by decide +kernel
theorem dX9_heaviest_42 : decode cX9_heaviest 42 = .ok (.ifCond .eq 7, 3) := by decide +kernel
theorem dX9_heaviest_45 : decode cX9_heaviest 45 = .ok (.iload_n 2, 1) := by decide +kernel
theorem dX9_heaviest_46 : decode cX9_heaviest 46 = .ok (.goto 4, 3) := by decide +kernel
theorem dX9_heaviest_49 : decode cX9_heaviest 49 = .ok (.iload_n 1, 1) := by decide +kernel
theorem dX9_heaviest_50 : decode cX9_heaviest 50 = .ok (.istore_n 1, 1) := by decide +kernel
theorem dX9_heaviest_51 : decode cX9_heaviest 51 = .ok (.iinc 2 1, 3) := by decide +kernel
theorem dX9_heaviest_54 : decode cX9_heaviest 54 = .ok (.goto (-50), 3) := by decide +kernel
theorem dX9_heaviest_57 : decode cX9_heaviest 57 = .ok (.iload_n 1, 1) := by decide +kernel
theorem dX9_heaviest_58 : decode cX9_heaviest 58 = .ok (.ireturn, 1) := by decide +kernel
theorem dX9_layPotentials_0 : decode cX9_layPotentials 0 = .ok (.iconst 0, 1) := by decide +kernel
theorem dX9_layPotentials_1 : decode cX9_layPotentials 1 = .ok (.istore_n 1, 1) := by decide +kernel
theorem dX9_layPotentials_2 : decode cX9_layPotentials 2 = .ok (.iload_n 1, 1) := by decide +kernel
theorem dX9_layPotentials_3 : decode cX9_layPotentials 3 = .ok (.aload_n 0, 1) := by decide +kernel
theorem dX9_layPotentials_4 : decode cX9_layPotentials 4 = .ok (.getfield 7, 3) := by decide +kernel
theorem dX9_layPotentials_7 : decode cX9_layPotentials 7 = .ok (.if_icmp .ge 41, 3) := by decide +kernel
theorem dX9_layPotentials_10 : decode cX9_layPotentials 10 = .ok (.aload_n 0, 1) := by decide +kernel
theorem dX9_layPotentials_11 : decode cX9_layPotentials 11 = .ok (.getfield 72, 3) := by decide +kernel
theorem dX9_layPotentials_14 : decode cX9_layPotentials 14 = .ok (.iload_n 1, 1) := by decide +kernel
theorem dX9_layPotentials_15 : decode cX9_layPotentials 15 = .ok (.iload_n 1, 1) := by decide +kernel
theorem dX9_layPotentials_16 : decode cX9_layPotentials 16 = .ok (.ifCond .eq 13, 3) := by decide +kernel
theorem dX9_layPotentials_19 : decode cX9_layPotentials 19 = .ok (.iload_n 1, 1) := by decide +kernel
theorem dX9_layPotentials_20 : decode cX9_layPotentials 20 = .ok (.aload_n 0, 1) := by decide +kernel
theorem dX9_layPotentials_21 : decode cX9_layPotentials 21 = .ok (.getfield 7, 3) := by decide +kernel
theorem dX9_layPotentials_24 : decode cX9_layPotentials 24 = .ok (.iconst 1, 1) := by decide +kernel
theorem dX9_layPotentials_25 : decode cX9_layPotentials 25 = .ok (.isub, 1) := by decide +kernel
theorem dX9_layPotentials_26 : decode cX9_layPotentials 26 = .ok (.if_icmp .ne 7, 3) := by decide +kernel
theorem dX9_layPotentials_29 : decode cX9_layPotentials 29 = .ok (.iconst 1, 1) := by decide +kernel
theorem dX9_layPotentials_30 : decode cX9_layPotentials 30 = .ok (.goto 4, 3) := by decide +kernel
theorem dX9_layPotentials_33 : decode cX9_layPotentials 33 = .ok (.iconst 0, 1) := by decide +kernel
theorem dX9_layPotentials_34 : decode cX9_layPotentials 34 = .ok (.bastore, 1) := by decide +kernel
theorem dX9_layPotentials_35 : decode cX9_layPotentials 35 = .ok (.aload_n 0, 1) := by decide +kernel
theorem dX9_layPotentials_36 : decode cX9_layPotentials 36 = .ok (.getfield 69, 3) := by decide +kernel
theorem dX9_layPotentials_39 : decode cX9_layPotentials 39 = .ok (.iload_n 1, 1) := by decide +kernel
theorem dX9_layPotentials_40 : decode cX9_layPotentials 40 = .ok (.iconst 0, 1) := by decide +kernel
theorem dX9_layPotentials_41 : decode cX9_layPotentials 41 = .ok (.iastore, 1) := by decide +kernel
theorem dX9_layPotentials_42 : decode cX9_layPotentials 42 = .ok (.iinc 1 1, 3) := by decide +kernel
theorem dX9_layPotentials_45 : decode cX9_layPotentials 45 = .ok (.goto (-43), 3) := by decide +kernel
theorem dX9_layPotentials_48 : decode cX9_layPotentials 48 = .ok (.iconst 0, 1) := by decide +kernel
theorem dX9_layPotentials_49 : decode cX9_layPotentials 49 = .ok (.istore_n 1, 1) := by decide +kernel
theorem dX9_layPotentials_50 : decode cX9_layPotentials 50 = .ok (.iload_n 1, 1) := by decide +kernel
theorem dX9_layPotentials_51 : decode cX9_layPotentials 51 = .ok (.aload_n 0, 1) := by decide +kernel
theorem dX9_layPotentials_52 : decode cX9_layPotentials 52 = .ok (.getfield 7, 3) := by decide +kernel
theorem dX9_layPotentials_55 : decode cX9_layPotentials 55 = .ok (.if_icmp .ge 145, 3) := by decide +kernel
theorem dX9_layPotentials_58 : decode cX9_layPotentials 58 = .ok (.iconst 0, 1) := by decide +kernel
theorem dX9_layPotentials_59 : decode cX9_layPotentials 59 = .ok (.istore_n 2, 1) := by decide +kernel
theorem dX9_layPotentials_60 : decode cX9_layPotentials 60 = .ok (.iload_n 2, 1) := by decide +kernel
theorem dX9_layPotentials_61 : decode cX9_layPotentials 61 = .ok (.iconst 2, 1) := by decide +kernel
theorem dX9_layPotentials_62 : decode cX9_layPotentials 62 = .ok (.aload_n 0, 1) := by decide +kernel
theorem dX9_layPotentials_63 : decode cX9_layPotentials 63 = .ok (.getfield 101, 3) := by decide +kernel
theorem dX9_layPotentials_66 : decode cX9_layPotentials 66 = .ok (.imul, 1) := by decide +kernel
theorem dX9_layPotentials_67 : decode cX9_layPotentials 67 = .ok (.if_icmp .ge 127, 3) := by decide +kernel
theorem dX9_layPotentials_70 : decode cX9_layPotentials 70 = .ok (.aload_n 0, 1) := by decide +kernel
theorem dX9_layPotentials_71 : decode cX9_layPotentials 71 = .ok (.getfield 39, 3) := by decide +kernel
theorem dX9_layPotentials_74 : decode cX9_layPotentials 74 = .ok (.iload_n 2, 1) := by decide +kernel
theorem dX9_layPotentials_75 : decode cX9_layPotentials 75 = .ok (.baload, 1) := by decide +kernel
theorem dX9_layPotentials_76 : decode cX9_layPotentials 76 = .ok (.ifCond .eq 112, 3) := by decide +kernel
theorem dX9_layPotentials_79 : decode cX9_layPotentials 79 = .ok (.aload_n 0, 1) := by decide +kernel
theorem dX9_layPotentials_80 : decode cX9_layPotentials 80 = .ok (.iload_n 2, 1) := by decide +kernel
theorem dX9_layPotentials_81 : decode cX9_layPotentials 81 = .ok (.invokevirtual 151, 3) := by decide +kernel
theorem dX9_layPotentials_84 : decode cX9_layPotentials 84 = .ok (.istore_n 3, 1) := by decide +kernel
theorem dX9_layPotentials_85 : decode cX9_layPotentials 85 = .ok (.aload_n 0, 1) := by decide +kernel
theorem dX9_layPotentials_86 : decode cX9_layPotentials 86 = .ok (.iload_n 2, 1) := by decide +kernel
theorem dX9_layPotentials_87 : decode cX9_layPotentials 87 = .ok (.invokevirtual 165, 3) := by decide +kernel
theorem dX9_layPotentials_90 : decode cX9_layPotentials 90 = .ok (.istore 4, 2) := by decide +kernel
theorem dX9_layPotentials_92 : decode cX9_layPotentials 92 = .ok (.aload_n 0, 1) := by decide +kernel
theorem dX9_layPotentials_93 : decode cX9_layPotentials 93 = .ok (.getfield 72, 3) := by decide +kernel
theorem dX9_layPotentials_96 : decode cX9_layPotentials 96 = .ok (.iload_n 3, 1) := by decide +kernel
theorem dX9_layPotentials_97 : decode cX9_layPotentials 97 = .ok (.baload, 1) := by decide +kernel
theorem dX9_layPotentials_98 : decode cX9_layPotentials 98 = .ok (.ifCond .eq 44, 3) := by decide +kernel
theorem dX9_layPotentials_101 : decode cX9_layPotentials 101 = .ok (.aload_n 0, 1) := by decide +kernel
theorem dX9_layPotentials_102 : decode cX9_layPotentials 102 = .ok (.getfield 72, 3) := by decide +kernel
theorem dX9_layPotentials_105 : decode cX9_layPotentials 105 = .ok (.iload 4, 2) := by decide +kernel
theorem dX9_layPotentials_107 : decode cX9_layPotentials 107 = .ok (.baload, 1) := by decide +kernel
theorem dX9_layPotentials_108 : decode cX9_layPotentials 108 = .ok (.ifCond .ne 34, 3) := by decide +kernel
theorem dX9_layPotentials_111 : decode cX9_layPotentials 111 = .ok (.aload_n 0, 1) := by decide +kernel
theorem dX9_layPotentials_112 : decode cX9_layPotentials 112 = .ok (.getfield 69, 3) := by decide +kernel
theorem dX9_layPotentials_115 : decode cX9_layPotentials 115 = .ok (.iload 4, 2) := by decide +kernel
theorem dX9_layPotentials_117 : decode cX9_layPotentials 117 = .ok (.aload_n 0, 1) := by decide +kernel
theorem dX9_layPotentials_118 : decode cX9_layPotentials 118 = .ok (.getfield 69, 3) := by decide +kernel
theorem dX9_layPotentials_121 : decode cX9_layPotentials 121 = .ok (.iload_n 3, 1) := by decide +kernel
theorem dX9_layPotentials_122 : decode cX9_layPotentials 122 = .ok (.iaload, 1) := by decide +kernel
theorem dX9_layPotentials_123 : decode cX9_layPotentials 123 = .ok (.aload_n 0, 1) := by decide +kernel
theorem dX9_layPotentials_124 : decode cX9_layPotentials 124 = .ok (.getfield 33, 3) := by decide +kernel
theorem dX9_layPotentials_127 : decode cX9_layPotentials 127 = .ok (.iload_n 2, 1) := by decide +kernel
theorem dX9_layPotentials_128 : decode cX9_layPotentials 128 = .ok (.iaload, 1) := by decide +kernel
theorem dX9_layPotentials_129 : decode cX9_layPotentials 129 = .ok (.iadd, 1) := by decide +kernel
theorem dX9_layPotentials_130 : decode cX9_layPotentials 130 = .ok (.iastore, 1) := by decide +kernel
theorem dX9_layPotentials_131 : decode cX9_layPotentials 131 = .ok (.aload_n 0, 1) := by decide +kernel
theorem dX9_layPotentials_132 : decode cX9_layPotentials 132 = .ok (.getfield 72, 3) := by decide +kernel
theorem dX9_layPotentials_135 : decode cX9_layPotentials 135 = .ok (.iload 4, 2) := by decide +kernel
theorem dX9_layPotentials_137 : decode cX9_layPotentials 137 = .ok (.iconst 1, 1) := by decide +kernel
theorem dX9_layPotentials_138 : decode cX9_layPotentials 138 = .ok (.bastore, 1) := by decide +kernel
theorem dX9_layPotentials_139 : decode cX9_layPotentials 139 = .ok (.goto 49, 3) := by decide +kernel
theorem dX9_layPotentials_142 : decode cX9_layPotentials 142 = .ok (.aload_n 0, 1) := by decide +kernel
theorem dX9_layPotentials_143 : decode cX9_layPotentials 143 = .ok (.getfield 72, 3) := by decide +kernel
theorem dX9_layPotentials_146 : decode cX9_layPotentials 146 = .ok (.iload 4, 2) := by decide +kernel
theorem dX9_layPotentials_148 : decode cX9_layPotentials 148 = .ok (.baload, 1) := by decide +kernel
theorem dX9_layPotentials_149 : decode cX9_layPotentials 149 = .ok (.ifCond .eq 39, 3) := by decide +kernel
theorem dX9_layPotentials_152 : decode cX9_layPotentials 152 = .ok (.aload_n 0, 1) := by decide +kernel
theorem dX9_layPotentials_153 : decode cX9_layPotentials 153 = .ok (.getfield 72, 3) := by decide +kernel
theorem dX9_layPotentials_156 : decode cX9_layPotentials 156 = .ok (.iload_n 3, 1) := by decide +kernel
theorem dX9_layPotentials_157 : decode cX9_layPotentials 157 = .ok (.baload, 1) := by decide +kernel
theorem dX9_layPotentials_158 : decode cX9_layPotentials 158 = .ok (.ifCond .ne 30, 3) := by decide +kernel
theorem dX9_layPotentials_161 : decode cX9_layPotentials 161 = .ok (.aload_n 0, 1) := by decide +kernel
theorem dX9_layPotentials_162 : decode cX9_layPotentials 162 = .ok (.getfield 69, 3) := by decide +kernel
theorem dX9_layPotentials_165 : decode cX9_layPotentials 165 = .ok (.iload_n 3, 1) := by decide +kernel
theorem dX9_layPotentials_166 : decode cX9_layPotentials 166 = .ok (.aload_n 0, 1) := by decide +kernel
theorem dX9_layPotentials_167 : decode cX9_layPotentials 167 = .ok (.getfield 69, 3) := by decide +kernel
theorem dX9_layPotentials_170 : decode cX9_layPotentials 170 = .ok (.iload 4, 2) := by decide +kernel
theorem dX9_layPotentials_172 : decode cX9_layPotentials 172 = .ok (.iaload, 1) := by decide +kernel
theorem dX9_layPotentials_173 : decode cX9_layPotentials 173 = .ok (.aload_n 0, 1) := by decide +kernel
theorem dX9_layPotentials_174 : decode cX9_layPotentials 174 = .ok (.getfield 33, 3) := by decide +kernel
theorem dX9_layPotentials_177 : decode cX9_layPotentials 177 = .ok (.iload_n 2, 1) := by decide +kernel
theorem dX9_layPotentials_178 : decode cX9_layPotentials 178 = .ok (.iaload, 1) := by decide +kernel
theorem dX9_layPotentials_179 : decode cX9_layPotentials 179 = .ok (.isub, 1) := by decide +kernel
theorem dX9_layPotentials_180 : decode cX9_layPotentials 180 = .ok (.iastore, 1) := by decide +kernel
theorem dX9_layPotentials_181 : decode cX9_layPotentials 181 = .ok (.aload_n 0, 1) := by decide +kernel
theorem dX9_layPotentials_182 : decode cX9_layPotentials 182 = .ok (.getfield 72, 3) := by decide +kernel
theorem dX9_layPotentials_185 : decode cX9_layPotentials 185 = .ok (.iload_n 3, 1) := by decide +kernel
theorem dX9_layPotentials_186 : decode cX9_layPotentials 186 = .ok (.iconst 1, 1) := by decide +kernel
theorem dX9_layPotentials_187 : decode cX9_layPotentials 187 = .ok (.bastore, 1) := by decide +kernel
theorem dX9_layPotentials_188 : decode cX9_layPotentials 188 = .ok (.iinc 2 1, 3) := by decide +kernel
theorem dX9_layPotentials_191 : decode cX9_layPotentials 191 = .ok (.goto (-131), 3) := by decide +kernel
theorem dX9_layPotentials_194 : decode cX9_layPotentials 194 = .ok (.iinc 1 1, 3) := by decide +kernel
theorem dX9_layPotentials_197 : decode cX9_layPotentials 197 = .ok (.goto (-147), 3) := by decide +kernel
theorem dX9_layPotentials_200 : decode cX9_layPotentials 200 = .ok (.iconst 0, 1) := by decide +kernel
theorem dX9_layPotentials_201 : decode cX9_layPotentials 201 = .ok (.istore_n 1, 1) := by decide +kernel
theorem dX9_layPotentials_202 : decode cX9_layPotentials 202 = .ok (.iload_n 1, 1) := by decide +kernel
theorem dX9_layPotentials_203 : decode cX9_layPotentials 203 = .ok (.iconst 2, 1) := by decide +kernel
theorem dX9_layPotentials_204 : decode cX9_layPotentials 204 = .ok (.aload_n 0, 1) := by decide +kernel
theorem dX9_layPotentials_205 : decode cX9_layPotentials 205 = .ok (.getfield 101, 3) := by decide +kernel
theorem dX9_layPotentials_208 : decode cX9_layPotentials 208 = .ok (.imul, 1) := by decide +kernel
theorem dX9_layPotentials_209 : decode cX9_layPotentials 209 = .ok (.if_icmp .ge 55, 3) := by decide +kernel
theorem dX9_layPotentials_212 : decode cX9_layPotentials 212 = .ok (.aload_n 0, 1) := by decide +kernel
theorem dX9_layPotentials_213 : decode cX9_layPotentials 213 = .ok (.getfield 36, 3) := by decide +kernel
theorem dX9_layPotentials_216 : decode cX9_layPotentials 216 = .ok (.iload_n 1, 1) := by decide +kernel
theorem dX9_layPotentials_217 : decode cX9_layPotentials 217 = .ok (.aload_n 0, 1) := by decide +kernel
theorem dX9_layPotentials_218 : decode cX9_layPotentials 218 = .ok (.iload_n 1, 1) := by decide +kernel
theorem dX9_layPotentials_219 : decode cX9_layPotentials 219 = .ok (.invokevirtual 148, 3) := by decide +kernel
theorem dX9_layPotentials_222 : decode cX9_layPotentials 222 = .ok (.ifCond .eq 34, 3) := by decide +kernel
theorem dX9_layPotentials_225 : decode cX9_layPotentials 225 = .ok (.aload_n 0, 1) := by decide +kernel
theorem dX9_layPotentials_226 : decode cX9_layPotentials 226 = .ok (.getfield 33, 3) := by decide +kernel
theorem dX9_layPotentials_229 : decode cX9_layPotentials 229 = .ok (.iload_n 1, 1) := by decide +kernel
theorem dX9_layPotentials_230 : decode cX9_layPotentials 230 = .ok (.iaload, 1) := by decide +kernel
theorem dX9_layPotentials_231 : decode cX9_layPotentials 231 = .ok (.aload_n 0, 1) := by decide +kernel
theorem dX9_layPotentials_232 : decode cX9_layPotentials 232 = .ok (.getfield 69, 3) := by decide +kernel
theorem dX9_layPotentials_235 : decode cX9_layPotentials 235 = .ok (.aload_n 0, 1) := by decide +kernel
theorem dX9_layPotentials_236 : decode cX9_layPotentials 236 = .ok (.iload_n 1, 1) := by decide +kernel
theorem dX9_layPotentials_237 : decode cX9_layPotentials 237 = .ok (.invokevirtual 151, 3) := by decide +kernel
theorem dX9_layPotentials_240 : decode cX9_layPotentials 240 = .ok (.iaload, 1) := by decide +kernel
theorem dX9_layPotentials_241 : decode cX9_layPotentials 241 = .ok (.iadd, 1) := by decide +kernel
theorem dX9_layPotentials_242 : decode cX9_layPotentials 242 = .ok (.aload_n 0, 1) := by decide +kernel
theorem dX9_layPotentials_243 : decode cX9_layPotentials 243 = .ok (.getfield 69, 3) := by decide +kernel
theorem dX9_layPotentials_246 : decode cX9_layPotentials 246 = .ok (.aload_n 0, 1) := by decide +kernel
theorem dX9_layPotentials_247 : decode cX9_layPotentials 247 = .ok (.iload_n 1, 1) := by decide +kernel
theorem dX9_layPotentials_248 : decode cX9_layPotentials 248 = .ok (.invokevirtual 165, 3) := by decide +kernel
theorem dX9_layPotentials_251 : decode cX9_layPotentials 251 = .ok (.iaload, 1) := by decide +kernel
theorem dX9_layPotentials_252 : decode cX9_layPotentials 252 = .ok (.isub, 1) := by decide +kernel
theorem dX9_layPotentials_253 : decode cX9_layPotentials 253 = .ok (.goto 4, 3) := by decide +kernel
theorem dX9_layPotentials_256 : decode cX9_layPotentials 256 = .ok (.iconst 0, 1) := by decide +kernel
theorem dX9_layPotentials_257 : decode cX9_layPotentials 257 = .ok (.iastore, 1) := by decide +kernel
theorem dX9_layPotentials_258 : decode cX9_layPotentials 258 = .ok (.iinc 1 1, 3) := by decide +kernel
theorem dX9_layPotentials_261 : decode cX9_layPotentials 261 = .ok (.goto (-59), 3) := by decide +kernel
theorem dX9_layPotentials_264 : decode cX9_layPotentials 264 = .ok (.return_, 1) := by decide +kernel
theorem dX9_analyse_0 : decode cX9_analyse 0 = .ok (.aload_n 0, 1) := by decide +kernel
theorem dX9_analyse_1 : decode cX9_analyse 1 = .ok (.iconst 0, 1) := by decide +kernel
theorem dX9_analyse_2 : decode cX9_analyse 2 = .ok (.putfield 81, 3) := by decide +kernel
theorem dX9_analyse_5 : decode cX9_analyse 5 = .ok (.aload_n 0, 1) := by decide +kernel
theorem dX9_analyse_6 : decode cX9_analyse 6 = .ok (.invokevirtual 104, 3) := by decide +kernel
theorem dX9_analyse_9 : decode cX9_analyse 9 = .ok (.aload_n 0, 1) := by decide +kernel
theorem dX9_analyse_10 : decode cX9_analyse 10 = .ok (.invokevirtual 177, 3) := by decide +kernel
theorem dX9_analyse_13 : decode cX9_analyse 13 = .ok (.aload_n 0, 1) := by decide +kernel
theorem dX9_analyse_14 : decode cX9_analyse 14 = .ok (.getfield 145, 3) := by decide +kernel
theorem dX9_analyse_17 : decode cX9_analyse 17 = .ok (.aload_n 0, 1) := by decide +kernel
theorem dX9_analyse_18 : decode cX9_analyse 18 = .ok (.getfield 7, 3) := by decide +kernel
theorem dX9_analyse_21 : decode cX9_analyse 21 = .ok (.if_icmp .lt 10, 3) := by decide +kernel
theorem dX9_analyse_24 : decode cX9_analyse 24 = .ok (.aload_n 0, 1) := by decide +kernel
theorem dX9_analyse_25 : decode cX9_analyse 25 = .ok (.invokevirtual 180, 3) := by decide +kernel
theorem dX9_analyse_28 : decode cX9_analyse 28 = .ok (.ifCond .ne 5, 3) := by decide +kernel
theorem dX9_analyse_31 : decode cX9_analyse 31 = .ok (.iconst 0, 1) := by decide +kernel
theorem dX9_analyse_32 : decode cX9_analyse 32 = .ok (.ireturn, 1) := by decide +kernel
theorem dX9_analyse_33 : decode cX9_analyse 33 = .ok (.aload_n 0, 1) := by decide +kernel
theorem dX9_analyse_34 : decode cX9_analyse 34 = .ok (.invokevirtual 183, 3) := by decide +kernel
theorem dX9_analyse_37 : decode cX9_analyse 37 = .ok (.aload_n 0, 1) := by decide +kernel
theorem dX9_analyse_38 : decode cX9_analyse 38 = .ok (.invokevirtual 186, 3) := by decide +kernel
theorem dX9_analyse_41 : decode cX9_analyse 41 = .ok (.aload_n 0, 1) := by decide +kernel
theorem dX9_analyse_42 : decode cX9_analyse 42 = .ok (.invokevirtual 189, 3) := by decide +kernel
theorem dX9_analyse_45 : decode cX9_analyse 45 = .ok (.aload_n 0, 1) := by decide +kernel
theorem dX9_analyse_46 : decode cX9_analyse 46 = .ok (.iconst 1, 1) := by decide +kernel
theorem dX9_analyse_47 : decode cX9_analyse 47 = .ok (.putfield 84, 3) := by decide +kernel
theorem dX9_analyse_50 : decode cX9_analyse 50 = .ok (.aload_n 0, 1) := by decide +kernel
theorem dX9_analyse_51 : decode cX9_analyse 51 = .ok (.getfield 30, 3) := by decide +kernel
theorem dX9_analyse_54 : decode cX9_analyse 54 = .ok (.iconst 0, 1) := by decide +kernel
theorem dX9_analyse_55 : decode cX9_analyse 55 = .ok (.iaload, 1) := by decide +kernel
theorem dX9_analyse_56 : decode cX9_analyse 56 = .ok (.ireturn, 1) := by decide +kernel
theorem dX9_lack_0 : decode cX9_lack 0 = .ok (.aload_n 0, 1) := by decide +kernel
theorem dX9_lack_1 : decode cX9_lack 1 = .ok (.getfield 84, 3) := by decide +kernel
theorem dX9_lack_4 : decode cX9_lack 4 = .ok (.ifCond .ne 7, 3) := by decide +kernel
theorem dX9_lack_7 : decode cX9_lack 7 = .ok (.iconst 1, 1) := by decide +kernel
theorem dX9_lack_8 : decode cX9_lack 8 = .ok (.goto 12, 3) := by decide +kernel
theorem dX9_lack_11 : decode cX9_lack 11 = .ok (.iload_n 1, 1) := by decide +kernel
theorem dX9_lack_12 : decode cX9_lack 12 = .ok (.ifCond .eq 7, 3) := by decide +kernel
theorem dX9_lack_15 : decode cX9_lack 15 = .ok (.iconst 0, 1) := by decide +kernel
theorem dX9_lack_16 : decode cX9_lack 16 = .ok (.goto 4, 3) := by decide +kernel
theorem dX9_lack_19 : decode cX9_lack 19 = .ok (.iconst 2, 1) := by decide +kernel
theorem dX9_lack_20 : decode cX9_lack 20 = .ok (.ireturn, 1) := by decide +kernel
theorem dX9_pathsFrom_0 : decode cX9_pathsFrom 0 = .ok (.aload_n 0, 1) := by decide +kernel
theorem dX9_pathsFrom_1 : decode cX9_pathsFrom 1 = .ok (.aload_n 0, 1) := by decide +kernel
theorem dX9_pathsFrom_2 : decode cX9_pathsFrom 2 = .ok (.aload_n 0, 1) := by decide +kernel
theorem dX9_pathsFrom_3 : decode cX9_pathsFrom 3 = .ok (.iload_n 1, 1) := by decide +kernel
theorem dX9_pathsFrom_4 : decode cX9_pathsFrom 4 = .ok (.invokevirtual 107, 3) := by decide +kernel
theorem dX9_pathsFrom_7 : decode cX9_pathsFrom 7 = .ok (.invokevirtual 192, 3) := by decide +kernel
theorem dX9_pathsFrom_10 : decode cX9_pathsFrom 10 = .ok (.putfield 81, 3) := by decide +kernel
theorem dX9_pathsFrom_13 : decode cX9_pathsFrom 13 = .ok (.aload_n 0, 1) := by decide +kernel
theorem dX9_pathsFrom_14 : decode cX9_pathsFrom 14 = .ok (.getfield 81, 3) := by decide +kernel
theorem dX9_pathsFrom_17 : decode cX9_pathsFrom 17 = .ok (.ifCond .le 7, 3) := by decide +kernel
theorem dX9_pathsFrom_20 : decode cX9_pathsFrom 20 = .ok (.iconst 0, 1) := by decide +kernel
theorem dX9_pathsFrom_21 : decode cX9_pathsFrom 21 = .ok (.goto 9, 3) := by decide +kernel
theorem dX9_pathsFrom_24 : decode cX9_pathsFrom 24 = .ok (.aload_n 0, 1) := by decide +kernel
theorem dX9_pathsFrom_25 : decode cX9_pathsFrom 25 = .ok (.getfield 30, 3) := by decide +kernel
theorem dX9_pathsFrom_28 : decode cX9_pathsFrom 28 = .ok (.iload_n 1, 1) := by decide +kernel
theorem dX9_pathsFrom_29 : decode cX9_pathsFrom 29 = .ok (.iaload, 1) := by decide +kernel
theorem dX9_pathsFrom_30 : decode cX9_pathsFrom 30 = .ok (.ireturn, 1) := by decide +kernel
theorem dX9_isBack_0 : decode cX9_isBack 0 = .ok (.aload_n 0, 1) := by decide +kernel
theorem dX9_isBack_1 : decode cX9_isBack 1 = .ok (.aload_n 0, 1) := by decide +kernel
theorem dX9_isBack_2 : decode cX9_isBack 2 = .ok (.aload_n 0, 1) := by decide +kernel
theorem dX9_isBack_3 : decode cX9_isBack 3 = .ok (.iload_n 1, 1) := by decide +kernel
theorem dX9_isBack_4 : decode cX9_isBack 4 = .ok (.invokevirtual 119, 3) := by decide +kernel
theorem dX9_isBack_7 : decode cX9_isBack 7 = .ok (.invokevirtual 192, 3) := by decide +kernel
theorem dX9_isBack_10 : decode cX9_isBack 10 = .ok (.putfield 81, 3) := by decide +kernel
theorem dX9_isBack_13 : decode cX9_isBack 13 = .ok (.aload_n 0, 1) := by decide +kernel
theorem dX9_isBack_14 : decode cX9_isBack 14 = .ok (.getfield 81, 3) := by decide +kernel
theorem dX9_isBack_17 : decode cX9_isBack 17 = .ok (.ifCond .ne 16, 3) := by decide +kernel
theorem dX9_isBack_20 : decode cX9_isBack 20 = .ok (.aload_n 0, 1) := by decide +kernel
theorem dX9_isBack_21 : decode cX9_isBack 21 = .ok (.getfield 26, 3) := by decide +kernel
theorem dX9_isBack_24 : decode cX9_isBack 24 = .ok (.iload_n 1, 1) := by decide +kernel
theorem dX9_isBack_25 : decode cX9_isBack 25 = .ok (.baload, 1) := by decide +kernel
theorem dX9_isBack_26 : decode cX9_isBack 26 = .ok (.ifCond .eq 7, 3) := by decide +kernel
theorem dX9_isBack_29 : decode cX9_isBack 29 = .ok (.iconst 1, 1) := by decide +kernel
theorem dX9_isBack_30 : decode cX9_isBack 30 = .ok (.goto 4, 3) := by decide +kernel
theorem dX9_isBack_33 : decode cX9_isBack 33 = .ok (.iconst 0, 1) := by decide +kernel
theorem dX9_isBack_34 : decode cX9_isBack 34 = .ok (.ireturn, 1) := by decide +kernel
theorem dX9_linkOf_0 : decode cX9_linkOf 0 = .ok (.aload_n 0, 1) := by decide +kernel
theorem dX9_linkOf_1 : decode cX9_linkOf 1 = .ok (.getfield 26, 3) := by decide +kernel
theorem dX9_linkOf_4 : decode cX9_linkOf 4 = .ok (.iload_n 1, 1) := by decide +kernel
theorem dX9_linkOf_5 : decode cX9_linkOf 5 = .ok (.baload, 1) := by decide +kernel
theorem dX9_linkOf_6 : decode cX9_linkOf 6 = .ok (.ifCond .eq 15, 3) := by decide +kernel
theorem dX9_linkOf_9 : decode cX9_linkOf 9 = .ok (.iload_n 2, 1) := by decide +kernel
theorem dX9_linkOf_10 : decode cX9_linkOf 10 = .ok (.ifCond .ne 11, 3) := by decide +kernel
theorem dX9_linkOf_13 : decode cX9_linkOf 13 = .ok (.iconst 2, 1) := by decide +kernel
theorem dX9_linkOf_14 : decode cX9_linkOf 14 = .ok (.iload_n 1, 1) := by decide +kernel
theorem dX9_linkOf_15 : decode cX9_linkOf 15 = .ok (.imul, 1) := by decide +kernel
theorem dX9_linkOf_16 : decode cX9_linkOf 16 = .ok (.iconst 1, 1) := by decide +kernel
theorem dX9_linkOf_17 : decode cX9_linkOf 17 = .ok (.iadd, 1) := by decide +kernel
theorem dX9_linkOf_18 : decode cX9_linkOf 18 = .ok (.goto 6, 3) := by decide +kernel
theorem dX9_linkOf_21 : decode cX9_linkOf 21 = .ok (.iconst 2, 1) := by decide +kernel
theorem dX9_linkOf_22 : decode cX9_linkOf 22 = .ok (.iload_n 1, 1) := by decide +kernel
theorem dX9_linkOf_23 : decode cX9_linkOf 23 = .ok (.imul, 1) := by decide +kernel
theorem dX9_linkOf_24 : decode cX9_linkOf 24 = .ok (.ireturn, 1) := by decide +kernel
theorem dX9_value_0 : decode cX9_value 0 = .ok (.aload_n 0, 1) := by decide +kernel
theorem dX9_value_1 : decode cX9_value 1 = .ok (.aload_n 0, 1) := by decide +kernel
theorem dX9_value_2 : decode cX9_value 2 = .ok (.aload_n 0, 1) := by decide +kernel
theorem dX9_value_3 : decode cX9_value 3 = .ok (.iload_n 1, 1) := by decide +kernel
theorem dX9_value_4 : decode cX9_value 4 = .ok (.invokevirtual 119, 3) := by decide +kernel
theorem dX9_value_7 : decode cX9_value 7 = .ok (.invokevirtual 192, 3) := by decide +kernel
theorem dX9_value_10 : decode cX9_value 10 = .ok (.putfield 81, 3) := by decide +kernel
theorem dX9_value_13 : decode cX9_value 13 = .ok (.aload_n 0, 1) := by decide +kernel
theorem dX9_value_14 : decode cX9_value 14 = .ok (.getfield 81, 3) := by decide +kernel
theorem dX9_value_17 : decode cX9_value 17 = .ok (.ifCond .le 7, 3) := by decide +kernel
theorem dX9_value_20 : decode cX9_value 20 = .ok (.iconst 0, 1) := by decide +kernel
theorem dX9_value_21 : decode cX9_value 21 = .ok (.goto 14, 3) := by decide +kernel
theorem dX9_value_24 : decode cX9_value 24 = .ok (.aload_n 0, 1) := by decide +kernel
theorem dX9_value_25 : decode cX9_value 25 = .ok (.getfield 33, 3) := by decide +kernel
theorem dX9_value_28 : decode cX9_value 28 = .ok (.aload_n 0, 1) := by decide +kernel
theorem dX9_value_29 : decode cX9_value 29 = .ok (.iload_n 1, 1) := by decide +kernel
theorem dX9_value_30 : decode cX9_value 30 = .ok (.iload_n 2, 1) := by decide +kernel
theorem dX9_value_31 : decode cX9_value 31 = .ok (.invokevirtual 196, 3) := by decide +kernel
theorem dX9_value_34 : decode cX9_value 34 = .ok (.iaload, 1) := by decide +kernel
theorem dX9_value_35 : decode cX9_value 35 = .ok (.ireturn, 1) := by decide +kernel
theorem dX9_increment_0 : decode cX9_increment 0 = .ok (.aload_n 0, 1) := by decide +kernel
theorem dX9_increment_1 : decode cX9_increment 1 = .ok (.aload_n 0, 1) := by decide +kernel
theorem dX9_increment_2 : decode cX9_increment 2 = .ok (.aload_n 0, 1) := by decide +kernel
theorem dX9_increment_3 : decode cX9_increment 3 = .ok (.iload_n 1, 1) := by decide +kernel
theorem dX9_increment_4 : decode cX9_increment 4 = .ok (.invokevirtual 119, 3) := by decide +kernel
theorem dX9_increment_7 : decode cX9_increment 7 = .ok (.invokevirtual 192, 3) := by decide +kernel
theorem dX9_increment_10 : decode cX9_increment 10 = .ok (.putfield 81, 3) := by decide +kernel
theorem dX9_increment_13 : decode cX9_increment 13 = .ok (.aload_n 0, 1) := by decide +kernel
theorem dX9_increment_14 : decode cX9_increment 14 = .ok (.getfield 81, 3) := by decide +kernel
theorem dX9_increment_17 : decode cX9_increment 17 = .ok (.ifCond .le 7, 3) := by decide +kernel
theorem dX9_increment_20 : decode cX9_increment 20 = .ok (.iconst 0, 1) := by decide +kernel
theorem dX9_increment_21 : decode cX9_increment 21 = .ok (.goto 14, 3) := by decide +kernel
theorem dX9_increment_24 : decode cX9_increment 24 = .ok (.aload_n 0, 1) := by decide +kernel
theorem dX9_increment_25 : decode cX9_increment 25 = .ok (.getfield 36, 3) := by decide +kernel
theorem dX9_increment_28 : decode cX9_increment 28 = .ok (.aload_n 0, 1) := by decide +kernel
theorem dX9_increment_29 : decode cX9_increment 29 = .ok (.iload_n 1, 1) := by decide +kernel
theorem dX9_increment_30 : decode cX9_increment 30 = .ok (.iload_n 2, 1) := by decide +kernel
theorem dX9_increment_31 : decode cX9_increment 31 = .ok (.invokevirtual 196, 3) := by decide +kernel
theorem dX9_increment_34 : decode cX9_increment 34 = .ok (.iaload, 1) := by decide +kernel
theorem dX9_increment_35 : decode cX9_increment 35 = .ok (.ireturn, 1) := by decide +kernel
theorem dX9_chordSum_0 : decode cX9_chordSum 0 = .ok (.iconst 0, 1) := by decide +kernel
theorem dX9_chordSum_1 : decode cX9_chordSum 1 = .ok (.istore_n 2, 1) := by decide +kernel
theorem dX9_chordSum_2 : decode cX9_chordSum 2 = .ok (.iconst 0, 1) := by decide +kernel
theorem dX9_chordSum_3 : decode cX9_chordSum 3 = .ok (.istore_n 3, 1) := by decide +kernel
theorem dX9_chordSum_4 : decode cX9_chordSum 4 = .ok (.iload_n 3, 1) := by decide +kernel
theorem dX9_chordSum_5 : decode cX9_chordSum 5 = .ok (.iconst 2, 1) := by decide +kernel
theorem dX9_chordSum_6 : decode cX9_chordSum 6 = .ok (.aload_n 0, 1) := by decide +kernel
theorem dX9_chordSum_7 : decode cX9_chordSum 7 = .ok (.getfield 101, 3) := by decide +kernel
theorem dX9_chordSum_10 : decode cX9_chordSum 10 = .ok (.imul, 1) := by decide +kernel
theorem dX9_chordSum_11 : decode cX9_chordSum 11 = .ok (.if_icmp .ge 49, 3) := by decide +kernel
theorem dX9_chordSum_14 : decode cX9_chordSum 14 = .ok (.iload_n 2, 1) := by decide +kernel
theorem dX9_chordSum_15 : decode cX9_chordSum 15 = .ok (.aload_n 0, 1) := by decide +kernel
theorem dX9_chordSum_16 : decode cX9_chordSum 16 = .ok (.iload_n 3, 1) := by decide +kernel
theorem dX9_chordSum_17 : decode cX9_chordSum 17 = .ok (.invokevirtual 148, 3) := by decide +kernel
theorem dX9_chordSum_20 : decode cX9_chordSum 20 = .ok (.ifCond .eq 31, 3) := by decide +kernel
theorem dX9_chordSum_23 : decode cX9_chordSum 23 = .ok (.aload_n 0, 1) := by decide +kernel
theorem dX9_chordSum_24 : decode cX9_chordSum 24 = .ok (.getfield 39, 3) := by decide +kernel
theorem dX9_chordSum_27 : decode cX9_chordSum 27 = .ok (.iload_n 3, 1) := by decide +kernel
theorem dX9_chordSum_28 : decode cX9_chordSum 28 = .ok (.baload, 1) := by decide +kernel
theorem dX9_chordSum_29 : decode cX9_chordSum 29 = .ok (.ifCond .ne 22, 3) := by decide +kernel
theorem dX9_chordSum_32 : decode cX9_chordSum 32 = .ok (.iload_n 1, 1) := by decide +kernel
theorem dX9_chordSum_33 : decode cX9_chordSum 33 = .ok (.ifCond .eq 14, 3) := by decide +kernel
theorem dX9_chordSum_36 : decode cX9_chordSum 36 = .ok (.aload_n 0, 1) := by decide +kernel
theorem dX9_chordSum_37 : decode cX9_chordSum 37 = .ok (.getfield 20, 3) := by decide +kernel
theorem dX9_chordSum_40 : decode cX9_chordSum 40 = .ok (.iload_n 3, 1) := by decide +kernel
theorem dX9_chordSum_41 : decode cX9_chordSum 41 = .ok (.iconst 2, 1) := by decide +kernel
theorem dX9_chordSum_42 : decode cX9_chordSum 42 = .ok (.idiv, 1) := by decide +kernel
theorem dX9_chordSum_43 : decode cX9_chordSum 43 = .ok (.iaload, 1) := by decide +kernel
theorem dX9_chordSum_44 : decode cX9_chordSum 44 = .ok (.goto 8, 3) := by decide +kernel
theorem dX9_chordSum_47 : decode cX9_chordSum 47 = .ok (.iconst 1, 1) := by decide +kernel
theorem dX9_chordSum_48 : decode cX9_chordSum 48 = .ok (.goto 4, 3) := by decide +kernel
theorem dX9_chordSum_51 : decode cX9_chordSum 51 = .ok (.iconst 0, 1) := by decide +kernel
theorem dX9_chordSum_52 : decode cX9_chordSum 52 = .ok (.iadd, 1) := by decide +kernel
theorem dX9_chordSum_53 : decode cX9_chordSum 53 = .ok (.istore_n 2, 1) := by decide +kernel
theorem dX9_chordSum_54 : decode cX9_chordSum 54 = .ok (.iinc 3 1, 3) := by decide +kernel
theorem dX9_chordSum_57 : decode cX9_chordSum 57 = .ok (.goto (-53), 3) := by decide +kernel
theorem dX9_chordSum_60 : decode cX9_chordSum 60 = .ok (.iload_n 2, 1) := by decide +kernel
theorem dX9_chordSum_61 : decode cX9_chordSum 61 = .ok (.ireturn, 1) := by decide +kernel
theorem dX9_chords_0 : decode cX9_chords 0 = .ok (.aload_n 0, 1) := by decide +kernel
theorem dX9_chords_1 : decode cX9_chords 1 = .ok (.aload_n 0, 1) := by decide +kernel
theorem dX9_chords_2 : decode cX9_chords 2 = .ok (.getfield 84, 3) := by decide +kernel
theorem dX9_chords_5 : decode cX9_chords 5 = .ok (.ifCond .eq 7, 3) := by decide +kernel
theorem dX9_chords_8 : decode cX9_chords 8 = .ok (.iconst 0, 1) := by decide +kernel
theorem dX9_chords_9 : decode cX9_chords 9 = .ok (.goto 4, 3) := by decide +kernel
theorem dX9_chords_12 : decode cX9_chords 12 = .ok (.iconst 1, 1) := by decide +kernel
theorem dX9_chords_13 : decode cX9_chords 13 = .ok (.putfield 81, 3) := by decide +kernel
theorem dX9_chords_16 : decode cX9_chords 16 = .ok (.aload_n 0, 1) := by decide +kernel
theorem dX9_chords_17 : decode cX9_chords 17 = .ok (.getfield 81, 3) := by decide +kernel
theorem dX9_chords_20 : decode cX9_chords 20 = .ok (.ifCond .le 7, 3) := by decide +kernel
theorem dX9_chords_23 : decode cX9_chords 23 = .ok (.iconst 0, 1) := by decide +kernel
theorem dX9_chords_24 : decode cX9_chords 24 = .ok (.goto 8, 3) := by decide +kernel
theorem dX9_chords_27 : decode cX9_chords 27 = .ok (.aload_n 0, 1) := by decide +kernel
theorem dX9_chords_28 : decode cX9_chords 28 = .ok (.iload_n 1, 1) := by decide +kernel
theorem dX9_chords_29 : decode cX9_chords 29 = .ok (.invokevirtual 200, 3) := by decide +kernel
theorem dX9_chords_32 : decode cX9_chords 32 = .ok (.ireturn, 1) := by decide +kernel
theorem dX9_isPath_0 : decode cX9_isPath 0 = .ok (.aload_n 0, 1) := by decide +kernel
theorem dX9_isPath_1 : decode cX9_isPath 1 = .ok (.getfield 84, 3) := by decide +kernel
theorem dX9_isPath_4 : decode cX9_isPath 4 = .ok (.ifCond .eq 23, 3) := by decide +kernel
theorem dX9_isPath_7 : decode cX9_isPath 7 = .ok (.iload_n 1, 1) := by decide +kernel
theorem dX9_isPath_8 : decode cX9_isPath 8 = .ok (.iconst 0, 1) := by decide +kernel
theorem dX9_isPath_9 : decode cX9_isPath 9 = .ok (.aload_n 0, 1) := by decide +kernel
theorem dX9_isPath_10 : decode cX9_isPath 10 = .ok (.getfield 30, 3) := by decide +kernel
theorem dX9_isPath_13 : decode cX9_isPath 13 = .ok (.iconst 0, 1) := by decide +kernel
theorem dX9_isPath_14 : decode cX9_isPath 14 = .ok (.iaload, 1) := by decide +kernel
theorem dX9_isPath_15 : decode cX9_isPath 15 = .ok (.iconst 1, 1) := by decide +kernel
theorem dX9_isPath_16 : decode cX9_isPath 16 = .ok (.isub, 1) := by decide +kernel
theorem dX9_isPath_17 : decode cX9_isPath 17 = .ok (.invokestatic 97, 3) := by decide +kernel
theorem dX9_isPath_20 : decode cX9_isPath 20 = .ok (.ifCond .eq 7, 3) := by decide +kernel
theorem dX9_isPath_23 : decode cX9_isPath 23 = .ok (.iconst 1, 1) := by decide +kernel
theorem dX9_isPath_24 : decode cX9_isPath 24 = .ok (.goto 4, 3) := by decide +kernel
theorem dX9_isPath_27 : decode cX9_isPath 27 = .ok (.iconst 0, 1) := by decide +kernel
theorem dX9_isPath_28 : decode cX9_isPath 28 = .ok (.ireturn, 1) := by decide +kernel
theorem dX9_follow_0 : decode cX9_follow 0 = .ok (.aload_n 0, 1) := by decide +kernel
theorem dX9_follow_1 : decode cX9_follow 1 = .ok (.iconst 0, 1) := by decide +kernel
theorem dX9_follow_2 : decode cX9_follow 2 = .ok (.putfield 203, 3) := by decide +kernel
theorem dX9_follow_5 : decode cX9_follow 5 = .ok (.iload_n 1, 1) := by decide +kernel
theorem dX9_follow_6 : decode cX9_follow 6 = .ok (.istore_n 2, 1) := by decide +kernel
theorem dX9_follow_7 : decode cX9_follow 7 = .ok (.iconst 0, 1) := by decide +kernel
theorem dX9_follow_8 : decode cX9_follow 8 = .ok (.istore_n 3, 1) := by decide +kernel
theorem dX9_follow_9 : decode cX9_follow 9 = .ok (.iload_n 3, 1) := by decide +kernel
theorem dX9_follow_10 : decode cX9_follow 10 = .ok (.aload_n 0, 1) := by decide +kernel
theorem dX9_follow_11 : decode cX9_follow 11 = .ok (.getfield 7, 3) := by decide +kernel
theorem dX9_follow_14 : decode cX9_follow 14 = .ok (.iconst 1, 1) := by decide +kernel
theorem dX9_follow_15 : decode cX9_follow 15 = .ok (.isub, 1) := by decide +kernel
theorem dX9_follow_16 : decode cX9_follow 16 = .ok (.if_icmp .eq 87, 3) := by decide +kernel
theorem dX9_follow_19 : decode cX9_follow 19 = .ok (.aload_n 0, 1) := by decide +kernel
theorem dX9_follow_20 : decode cX9_follow 20 = .ok (.iload_n 3, 1) := by decide +kernel
theorem dX9_follow_21 : decode cX9_follow 21 = .ok (.iconst (-1), 1) := by decide +kernel
theorem dX9_follow_22 : decode cX9_follow 22 = .ok (.invokevirtual 162, 3) := by decide +kernel
theorem dX9_follow_25 : decode cX9_follow 25 = .ok (.istore 4, 2) := by decide +kernel
theorem dX9_follow_27 : decode cX9_follow 27 = .ok (.iload_n 2, 1) := by decide +kernel
theorem dX9_follow_28 : decode cX9_follow 28 = .ok (.aload_n 0, 1) := by decide +kernel
theorem dX9_follow_29 : decode cX9_follow 29 = .ok (.getfield 33, 3) := by decide +kernel
theorem dX9_follow_32 : decode cX9_follow 32 = .ok (.iload 4, 2) := by decide +kernel
theorem dX9_follow_34 : decode cX9_follow 34 = .ok (.iaload, 1) := by decide +kernel
theorem dX9_follow_35 : decode cX9_follow 35 = .ok (.aload_n 0, 1) := by decide +kernel
theorem dX9_follow_36 : decode cX9_follow 36 = .ok (.getfield 30, 3) := by decide +kernel
theorem dX9_follow_39 : decode cX9_follow 39 = .ok (.aload_n 0, 1) := by decide +kernel
theorem dX9_follow_40 : decode cX9_follow 40 = .ok (.iload 4, 2) := by decide +kernel
theorem dX9_follow_42 : decode cX9_follow 42 = .ok (.invokevirtual 165, 3) := by decide +kernel
theorem dX9_follow_45 : decode cX9_follow 45 = .ok (.iaload, 1) := by decide +kernel
theorem dX9_follow_46 : decode cX9_follow 46 = .ok (.iadd, 1) := by decide +kernel
theorem dX9_follow_47 : decode cX9_follow 47 = .ok (.if_icmp .lt 15, 3) := by decide +kernel
theorem dX9_follow_50 : decode cX9_follow 50 = .ok (.aload_n 0, 1) := by decide +kernel
theorem dX9_follow_51 : decode cX9_follow 51 = .ok (.iload_n 3, 1) := by decide +kernel
theorem dX9_follow_52 : decode cX9_follow 52 = .ok (.iload 4, 2) := by decide +kernel
theorem dX9_follow_54 : decode cX9_follow 54 = .ok (.invokevirtual 162, 3) := by decide +kernel
theorem dX9_follow_57 : decode cX9_follow 57 = .ok (.istore 4, 2) := by decide +kernel
theorem dX9_follow_59 : decode cX9_follow 59 = .ok (.goto (-32), 3) := by decide +kernel
theorem dX9_follow_62 : decode cX9_follow 62 = .ok (.iload_n 2, 1) := by decide +kernel
theorem dX9_follow_63 : decode cX9_follow 63 = .ok (.aload_n 0, 1) := by decide +kernel
theorem dX9_follow_64 : decode cX9_follow 64 = .ok (.getfield 33, 3) := by decide +kernel
theorem dX9_follow_67 : decode cX9_follow 67 = .ok (.iload 4, 2) := by decide +kernel
theorem dX9_follow_69 : decode cX9_follow 69 = .ok (.iaload, 1) := by decide +kernel
theorem dX9_follow_70 : decode cX9_follow 70 = .ok (.isub, 1) := by decide +kernel
theorem dX9_follow_71 : decode cX9_follow 71 = .ok (.istore_n 2, 1) := by decide +kernel
theorem dX9_follow_72 : decode cX9_follow 72 = .ok (.aload_n 0, 1) := by decide +kernel
theorem dX9_follow_73 : decode cX9_follow 73 = .ok (.getfield 78, 3) := by decide +kernel
theorem dX9_follow_76 : decode cX9_follow 76 = .ok (.aload_n 0, 1) := by decide +kernel
theorem dX9_follow_77 : decode cX9_follow 77 = .ok (.getfield 203, 3) := by decide +kernel
theorem dX9_follow_80 : decode cX9_follow 80 = .ok (.iload 4, 2) := by decide +kernel
theorem dX9_follow_82 : decode cX9_follow 82 = .ok (.iastore, 1) := by decide +kernel
theorem dX9_follow_83 : decode cX9_follow 83 = .ok (.aload_n 0, 1) := by decide +kernel
theorem dX9_follow_84 : decode cX9_follow 84 = .ok (.dup, 1) := by decide +kernel
theorem dX9_follow_85 : decode cX9_follow 85 = .ok (.getfield 203, 3) := by decide +kernel
theorem dX9_follow_88 : decode cX9_follow 88 = .ok (.iconst 1, 1) := by decide +kernel
theorem dX9_follow_89 : decode cX9_follow 89 = .ok (.iadd, 1) := by decide +kernel
theorem dX9_follow_90 : decode cX9_follow 90 = .ok (.putfield 203, 3) := by decide +kernel
theorem dX9_follow_93 : decode cX9_follow 93 = .ok (.aload_n 0, 1) := by decide +kernel
theorem dX9_follow_94 : decode cX9_follow 94 = .ok (.iload 4, 2) := by decide +kernel
theorem dX9_follow_96 : decode cX9_follow 96 = .ok (.invokevirtual 165, 3) := by decide +kernel
theorem dX9_follow_99 : decode cX9_follow 99 = .ok (.istore_n 3, 1) := by decide +kernel
theorem dX9_follow_100 : decode cX9_follow 100 = .ok (.goto (-91), 3) := by decide +kernel
theorem dX9_follow_103 : decode cX9_follow 103 = .ok (.return_, 1) := by decide +kernel
theorem dX9_beginsInside_0 : decode cX9_beginsInside 0 = .ok (.aload_n 0, 1) := by decide +kernel
theorem dX9_beginsInside_1 : decode cX9_beginsInside 1 = .ok (.aload_n 0, 1) := by decide +kernel
theorem dX9_beginsInside_2 : decode cX9_beginsInside 2 = .ok (.getfield 78, 3) := by decide +kernel
theorem dX9_beginsInside_5 : decode cX9_beginsInside 5 = .ok (.iconst 0, 1) := by decide +kernel
theorem dX9_beginsInside_6 : decode cX9_beginsInside 6 = .ok (.iaload, 1) := by decide +kernel
theorem dX9_beginsInside_7 : decode cX9_beginsInside 7 = .ok (.invokevirtual 159, 3) := by decide +kernel
theorem dX9_beginsInside_10 : decode cX9_beginsInside 10 = .ok (.iconst 2, 1) := by decide +kernel
theorem dX9_beginsInside_11 : decode cX9_beginsInside 11 = .ok (.if_icmp .ne 7, 3) := by decide +kernel
theorem dX9_beginsInside_14 : decode cX9_beginsInside 14 = .ok (.iconst 1, 1) := by decide +kernel
theorem dX9_beginsInside_15 : decode cX9_beginsInside 15 = .ok (.goto 4, 3) := by decide +kernel
theorem dX9_beginsInside_18 : decode cX9_beginsInside 18 = .ok (.iconst 0, 1) := by decide +kernel
theorem dX9_beginsInside_19 : decode cX9_beginsInside 19 = .ok (.ireturn, 1) := by decide +kernel
theorem dX9_endsInside_0 : decode cX9_endsInside 0 = .ok (.aload_n 0, 1) := by decide +kernel
theorem dX9_endsInside_1 : decode cX9_endsInside 1 = .ok (.aload_n 0, 1) := by decide +kernel
theorem dX9_endsInside_2 : decode cX9_endsInside 2 = .ok (.getfield 78, 3) := by decide +kernel
theorem dX9_endsInside_5 : decode cX9_endsInside 5 = .ok (.aload_n 0, 1) := by decide +kernel
theorem dX9_endsInside_6 : decode cX9_endsInside 6 = .ok (.getfield 203, 3) := by decide +kernel
theorem dX9_endsInside_9 : decode cX9_endsInside 9 = .ok (.iconst 1, 1) := by decide +kernel
theorem dX9_endsInside_10 : decode cX9_endsInside 10 = .ok (.isub, 1) := by decide +kernel
theorem dX9_endsInside_11 : decode cX9_endsInside 11 = .ok (.iaload, 1) := by decide +kernel
theorem dX9_endsInside_12 : decode cX9_endsInside 12 = .ok (.invokevirtual 159, 3) := by decide +kernel
theorem dX9_endsInside_15 : decode cX9_endsInside 15 = .ok (.iconst 1, 1) := by decide +kernel
theorem dX9_endsInside_16 : decode cX9_endsInside 16 = .ok (.if_icmp .ne 7, 3) := by decide +kernel
theorem dX9_endsInside_19 : decode cX9_endsInside 19 = .ok (.iconst 1, 1) := by decide +kernel
theorem dX9_endsInside_20 : decode cX9_endsInside 20 = .ok (.goto 4, 3) := by decide +kernel
theorem dX9_endsInside_23 : decode cX9_endsInside 23 = .ok (.iconst 0, 1) := by decide +kernel
theorem dX9_endsInside_24 : decode cX9_endsInside 24 = .ok (.ireturn, 1) := by decide +kernel
theorem dX9_visited_0 : decode cX9_visited 0 = .ok (.aload_n 0, 1) := by decide +kernel
theorem dX9_visited_1 : decode cX9_visited 1 = .ok (.getfield 203, 3) := by decide +kernel
theorem dX9_visited_4 : decode cX9_visited 4 = .ok (.iconst 1, 1) := by decide +kernel
theorem dX9_visited_5 : decode cX9_visited 5 = .ok (.iadd, 1) := by decide +kernel
theorem dX9_visited_6 : decode cX9_visited 6 = .ok (.aload_n 0, 1) := by decide +kernel
theorem dX9_visited_7 : decode cX9_visited 7 = .ok (.invokevirtual 206, 3) := by decide +kernel
theorem dX9_visited_10 : decode cX9_visited 10 = .ok (.ifCond .eq 7, 3) := by decide +kernel
theorem dX9_visited_13 : decode cX9_visited 13 = .ok (.iconst 1, 1) := by decide +kernel
theorem dX9_visited_14 : decode cX9_visited 14 = .ok (.goto 4, 3) := by decide +kernel
theorem dX9_visited_17 : decode cX9_visited 17 = .ok (.iconst 0, 1) := by decide +kernel
theorem dX9_visited_18 : decode cX9_visited 18 = .ok (.isub, 1) := by decide +kernel
theorem dX9_visited_19 : decode cX9_visited 19 = .ok (.aload_n 0, 1) := by decide +kernel
theorem dX9_visited_20 : decode cX9_visited 20 = .ok (.invokevirtual 209, 3) := by decide +kernel
theorem dX9_visited_23 : decode cX9_visited 23 = .ok (.ifCond .eq 7, 3) := by decide +kernel
theorem dX9_visited_26 : decode cX9_visited 26 = .ok (.iconst 1, 1) := by decide +kernel
theorem dX9_visited_27 : decode cX9_visited 27 = .ok (.goto 4, 3) := by decide +kernel
theorem dX9_visited_30 : decode cX9_visited 30 = .ok (.iconst 0, 1) := by decide +kernel
theorem dX9_visited_31 : decode cX9_visited 31 = .ok (.isub, 1) := by decide +kernel
theorem dX9_visited_32 : decode cX9_visited 32 = .ok (.ireturn, 1) := by decide +kernel
theorem dX9_visitedNode_0 : decode cX9_visitedNode 0 = .ok (.aload_n 0, 1) := by decide +kernel
theorem dX9_visitedNode_1 : decode cX9_visitedNode 1 = .ok (.invokevirtual 206, 3) := by decide +kernel
theorem dX9_visitedNode_4 : decode cX9_visitedNode 4 = .ok (.ifCond .eq 9, 3) := by decide +kernel
theorem dX9_visitedNode_7 : decode cX9_visitedNode 7 = .ok (.iload_n 1, 1) := by decide +kernel
theorem dX9_visitedNode_8 : decode cX9_visitedNode 8 = .ok (.iconst 1, 1) := by decide +kernel
theorem dX9_visitedNode_9 : decode cX9_visitedNode 9 = .ok (.iadd, 1) := by decide +kernel
theorem dX9_visitedNode_10 : decode cX9_visitedNode 10 = .ok (.goto 4, 3) := by decide +kernel
theorem dX9_visitedNode_13 : decode cX9_visitedNode 13 = .ok (.iload_n 1, 1) := by decide +kernel
theorem dX9_visitedNode_14 : decode cX9_visitedNode 14 = .ok (.istore_n 2, 1) := by decide +kernel
theorem dX9_visitedNode_15 : decode cX9_visitedNode 15 = .ok (.iload_n 2, 1) := by decide +kernel
theorem dX9_visitedNode_16 : decode cX9_visitedNode 16 = .ok (.ifCond .ne 7, 3) := by decide +kernel
theorem dX9_visitedNode_19 : decode cX9_visitedNode 19 = .ok (.iconst 0, 1) := by decide +kernel
theorem dX9_visitedNode_20 : decode cX9_visitedNode 20 = .ok (.goto 15, 3) := by decide +kernel
theorem dX9_visitedNode_23 : decode cX9_visitedNode 23 = .ok (.aload_n 0, 1) := by decide +kernel
theorem dX9_visitedNode_24 : decode cX9_visitedNode 24 = .ok (.aload_n 0, 1) := by decide +kernel
theorem dX9_visitedNode_25 : decode cX9_visitedNode 25 = .ok (.getfield 78, 3) := by decide +kernel
theorem dX9_visitedNode_28 : decode cX9_visitedNode 28 = .ok (.iload_n 2, 1) := by decide +kernel
theorem dX9_visitedNode_29 : decode cX9_visitedNode 29 = .ok (.iconst 1, 1) := by decide +kernel
theorem dX9_visitedNode_30 : decode cX9_visitedNode 30 = .ok (.isub, 1) := by decide +kernel
theorem dX9_visitedNode_31 : decode cX9_visitedNode 31 = .ok (.iaload, 1) := by decide +kernel
theorem dX9_visitedNode_32 : decode cX9_visitedNode 32 = .ok (.invokevirtual 165, 3) := by decide +kernel
theorem dX9_visitedNode_35 : decode cX9_visitedNode 35 = .ok (.ireturn, 1) := by decide +kernel
theorem dX9_lengthNow_0 : decode cX9_lengthNow 0 = .ok (.aload_n 0, 1) := by decide +kernel
theorem dX9_lengthNow_1 : decode cX9_lengthNow 1 = .ok (.iload_n 1, 1) := by decide +kernel
theorem dX9_lengthNow_2 : decode cX9_lengthNow 2 = .ok (.invokevirtual 212, 3) := by decide +kernel
theorem dX9_lengthNow_5 : decode cX9_lengthNow 5 = .ok (.aload_n 0, 1) := by decide +kernel
theorem dX9_lengthNow_6 : decode cX9_lengthNow 6 = .ok (.invokevirtual 216, 3) := by decide +kernel
theorem dX9_lengthNow_9 : decode cX9_lengthNow 9 = .ok (.ireturn, 1) := by decide +kernel
theorem dX9_pathLength_0 : decode cX9_pathLength 0 = .ok (.aload_n 0, 1) := by decide +kernel
theorem dX9_pathLength_1 : decode cX9_pathLength 1 = .ok (.aload_n 0, 1) := by decide +kernel
theorem dX9_pathLength_2 : decode cX9_pathLength 2 = .ok (.aload_n 0, 1) := by decide +kernel
theorem dX9_pathLength_3 : decode cX9_pathLength 3 = .ok (.iload_n 1, 1) := by decide +kernel
theorem dX9_pathLength_4 : decode cX9_pathLength 4 = .ok (.invokevirtual 219, 3) := by decide +kernel
theorem dX9_pathLength_7 : decode cX9_pathLength 7 = .ok (.invokevirtual 192, 3) := by decide +kernel
theorem dX9_pathLength_10 : decode cX9_pathLength 10 = .ok (.putfield 81, 3) := by decide +kernel
theorem dX9_pathLength_13 : decode cX9_pathLength 13 = .ok (.aload_n 0, 1) := by decide +kernel
theorem dX9_pathLength_14 : decode cX9_pathLength 14 = .ok (.getfield 81, 3) := by decide +kernel
theorem dX9_pathLength_17 : decode cX9_pathLength 17 = .ok (.ifCond .le 7, 3) := by decide +kernel
theorem dX9_pathLength_20 : decode cX9_pathLength 20 = .ok (.iconst 0, 1) := by decide +kernel
theorem dX9_pathLength_21 : decode cX9_pathLength 21 = .ok (.goto 8, 3) := by decide +kernel
theorem dX9_pathLength_24 : decode cX9_pathLength 24 = .ok (.aload_n 0, 1) := by decide +kernel
theorem dX9_pathLength_25 : decode cX9_pathLength 25 = .ok (.iload_n 1, 1) := by decide +kernel
theorem dX9_pathLength_26 : decode cX9_pathLength 26 = .ok (.invokevirtual 222, 3) := by decide +kernel
theorem dX9_pathLength_29 : decode cX9_pathLength 29 = .ok (.ireturn, 1) := by decide +kernel
theorem dX9_pathNode_0 : decode cX9_pathNode 0 = .ok (.aload_n 0, 1) := by decide +kernel
theorem dX9_pathNode_1 : decode cX9_pathNode 1 = .ok (.aload_n 0, 1) := by decide +kernel
theorem dX9_pathNode_2 : decode cX9_pathNode 2 = .ok (.aload_n 0, 1) := by decide +kernel
theorem dX9_pathNode_3 : decode cX9_pathNode 3 = .ok (.iload_n 1, 1) := by decide +kernel
theorem dX9_pathNode_4 : decode cX9_pathNode 4 = .ok (.invokevirtual 219, 3) := by decide +kernel
theorem dX9_pathNode_7 : decode cX9_pathNode 7 = .ok (.ifCond .eq 22, 3) := by decide +kernel
theorem dX9_pathNode_10 : decode cX9_pathNode 10 = .ok (.iload_n 2, 1) := by decide +kernel
theorem dX9_pathNode_11 : decode cX9_pathNode 11 = .ok (.iconst 0, 1) := by decide +kernel
theorem dX9_pathNode_12 : decode cX9_pathNode 12 = .ok (.aload_n 0, 1) := by decide +kernel
theorem dX9_pathNode_13 : decode cX9_pathNode 13 = .ok (.iload_n 1, 1) := by decide +kernel
theorem dX9_pathNode_14 : decode cX9_pathNode 14 = .ok (.invokevirtual 222, 3) := by decide +kernel
theorem dX9_pathNode_17 : decode cX9_pathNode 17 = .ok (.iconst 1, 1) := by decide +kernel
theorem dX9_pathNode_18 : decode cX9_pathNode 18 = .ok (.isub, 1) := by decide +kernel
theorem dX9_pathNode_19 : decode cX9_pathNode 19 = .ok (.invokestatic 97, 3) := by decide +kernel
theorem dX9_pathNode_22 : decode cX9_pathNode 22 = .ok (.ifCond .eq 7, 3) := by decide +kernel
theorem dX9_pathNode_25 : decode cX9_pathNode 25 = .ok (.iconst 1, 1) := by decide +kernel
theorem dX9_pathNode_26 : decode cX9_pathNode 26 = .ok (.goto 4, 3) := by decide +kernel
theorem dX9_pathNode_29 : decode cX9_pathNode 29 = .ok (.iconst 0, 1) := by decide +kernel
theorem dX9_pathNode_30 : decode cX9_pathNode 30 = .ok (.invokevirtual 192, 3) := by decide +kernel
theorem dX9_pathNode_33 : decode cX9_pathNode 33 = .ok (.putfield 81, 3) := by decide +kernel
theorem dX9_pathNode_36 : decode cX9_pathNode 36 = .ok (.aload_n 0, 1) := by decide +kernel
theorem dX9_pathNode_37 : decode cX9_pathNode 37 = .ok (.getfield 81, 3) := by decide +kernel
theorem dX9_pathNode_40 : decode cX9_pathNode 40 = .ok (.ifCond .le 7, 3) := by decide +kernel
theorem dX9_pathNode_43 : decode cX9_pathNode 43 = .ok (.iconst 0, 1) := by decide +kernel
theorem dX9_pathNode_44 : decode cX9_pathNode 44 = .ok (.goto 8, 3) := by decide +kernel
theorem dX9_pathNode_47 : decode cX9_pathNode 47 = .ok (.aload_n 0, 1) := by decide +kernel
theorem dX9_pathNode_48 : decode cX9_pathNode 48 = .ok (.iload_n 2, 1) := by decide +kernel
theorem dX9_pathNode_49 : decode cX9_pathNode 49 = .ok (.invokevirtual 225, 3) := by decide +kernel
theorem dX9_pathNode_52 : decode cX9_pathNode 52 = .ok (.ireturn, 1) := by decide +kernel
theorem dX9_edgeNow_0 : decode cX9_edgeNow 0 = .ok (.aload_n 0, 1) := by decide +kernel
theorem dX9_edgeNow_1 : decode cX9_edgeNow 1 = .ok (.iload_n 1, 1) := by decide +kernel
theorem dX9_edgeNow_2 : decode cX9_edgeNow 2 = .ok (.invokevirtual 212, 3) := by decide +kernel
theorem dX9_edgeNow_5 : decode cX9_edgeNow 5 = .ok (.iload_n 2, 1) := by decide +kernel
theorem dX9_edgeNow_6 : decode cX9_edgeNow 6 = .ok (.ifCond .eq 28, 3) := by decide +kernel
theorem dX9_edgeNow_9 : decode cX9_edgeNow 9 = .ok (.aload_n 0, 1) := by decide +kernel
theorem dX9_edgeNow_10 : decode cX9_edgeNow 10 = .ok (.invokevirtual 209, 3) := by decide +kernel
theorem dX9_edgeNow_13 : decode cX9_edgeNow 13 = .ok (.ifCond .eq 19, 3) := by decide +kernel
theorem dX9_edgeNow_16 : decode cX9_edgeNow 16 = .ok (.aload_n 0, 1) := by decide +kernel
theorem dX9_edgeNow_17 : decode cX9_edgeNow 17 = .ok (.getfield 78, 3) := by decide +kernel
theorem dX9_edgeNow_20 : decode cX9_edgeNow 20 = .ok (.aload_n 0, 1) := by decide +kernel
theorem dX9_edgeNow_21 : decode cX9_edgeNow 21 = .ok (.getfield 203, 3) := by decide +kernel
theorem dX9_edgeNow_24 : decode cX9_edgeNow 24 = .ok (.iconst 1, 1) := by decide +kernel
theorem dX9_edgeNow_25 : decode cX9_edgeNow 25 = .ok (.isub, 1) := by decide +kernel
theorem dX9_edgeNow_26 : decode cX9_edgeNow 26 = .ok (.iaload, 1) := by decide +kernel
theorem dX9_edgeNow_27 : decode cX9_edgeNow 27 = .ok (.iconst 2, 1) := by decide +kernel
theorem dX9_edgeNow_28 : decode cX9_edgeNow 28 = .ok (.idiv, 1) := by decide +kernel
theorem dX9_edgeNow_29 : decode cX9_edgeNow 29 = .ok (.goto 4, 3) := by decide +kernel
theorem dX9_edgeNow_32 : decode cX9_edgeNow 32 = .ok (.iconst (-1), 1) := by decide +kernel
theorem dX9_edgeNow_33 : decode cX9_edgeNow 33 = .ok (.ireturn, 1) := by decide +kernel
theorem dX9_edgeNow_34 : decode cX9_edgeNow 34 = .ok (.aload_n 0, 1) := by decide +kernel
theorem dX9_edgeNow_35 : decode cX9_edgeNow 35 = .ok (.invokevirtual 206, 3) := by decide +kernel
theorem dX9_edgeNow_38 : decode cX9_edgeNow 38 = .ok (.ifCond .eq 14, 3) := by decide +kernel
theorem dX9_edgeNow_41 : decode cX9_edgeNow 41 = .ok (.aload_n 0, 1) := by decide +kernel
theorem dX9_edgeNow_42 : decode cX9_edgeNow 42 = .ok (.getfield 78, 3) := by decide +kernel
theorem dX9_edgeNow_45 : decode cX9_edgeNow 45 = .ok (.iconst 0, 1) := by decide +kernel
theorem dX9_edgeNow_46 : decode cX9_edgeNow 46 = .ok (.iaload, 1) := by decide +kernel
theorem dX9_edgeNow_47 : decode cX9_edgeNow 47 = .ok (.iconst 2, 1) := by decide +kernel
theorem dX9_edgeNow_48 : decode cX9_edgeNow 48 = .ok (.idiv, 1) := by decide +kernel
theorem dX9_edgeNow_49 : decode cX9_edgeNow 49 = .ok (.goto 4, 3) := by decide +kernel
theorem dX9_edgeNow_52 : decode cX9_edgeNow 52 = .ok (.iconst (-1), 1) := by decide +kernel
theorem dX9_edgeNow_53 : decode cX9_edgeNow 53 = .ok (.ireturn, 1) := by decide +kernel
theorem dX9_pathEdge_0 : decode cX9_pathEdge 0 = .ok (.aload_n 0, 1) := by decide +kernel
theorem dX9_pathEdge_1 : decode cX9_pathEdge 1 = .ok (.aload_n 0, 1) := by decide +kernel
theorem dX9_pathEdge_2 : decode cX9_pathEdge 2 = .ok (.aload_n 0, 1) := by decide +kernel
theorem dX9_pathEdge_3 : decode cX9_pathEdge 3 = .ok (.iload_n 1, 1) := by decide +kernel
theorem dX9_pathEdge_4 : decode cX9_pathEdge 4 = .ok (.invokevirtual 219, 3) := by decide +kernel
theorem dX9_pathEdge_7 : decode cX9_pathEdge 7 = .ok (.invokevirtual 192, 3) := by decide +kernel
theorem dX9_pathEdge_10 : decode cX9_pathEdge 10 = .ok (.putfield 81, 3) := by decide +kernel
theorem dX9_pathEdge_13 : decode cX9_pathEdge 13 = .ok (.aload_n 0, 1) := by decide +kernel
theorem dX9_pathEdge_14 : decode cX9_pathEdge 14 = .ok (.getfield 81, 3) := by decide +kernel
theorem dX9_pathEdge_17 : decode cX9_pathEdge 17 = .ok (.ifCond .le 7, 3) := by decide +kernel
theorem dX9_pathEdge_20 : decode cX9_pathEdge 20 = .ok (.iconst 0, 1) := by decide +kernel
theorem dX9_pathEdge_21 : decode cX9_pathEdge 21 = .ok (.goto 9, 3) := by decide +kernel
theorem dX9_pathEdge_24 : decode cX9_pathEdge 24 = .ok (.aload_n 0, 1) := by decide +kernel
theorem dX9_pathEdge_25 : decode cX9_pathEdge 25 = .ok (.iload_n 1, 1) := by decide +kernel
theorem dX9_pathEdge_26 : decode cX9_pathEdge 26 = .ok (.iload_n 2, 1) := by decide +kernel
theorem dX9_pathEdge_27 : decode cX9_pathEdge 27 = .ok (.invokevirtual 228, 3) := by decide +kernel
theorem dX9_pathEdge_30 : decode cX9_pathEdge 30 = .ok (.ireturn, 1) := by decide +kernel
theorem dX9_leastValue_0 : decode cX9_leastValue 0 = .ok (.iconst (-1), 1) := by decide +kernel
theorem dX9_leastValue_1 : decode cX9_leastValue 1 = .ok (.istore_n 3, 1) := by decide +kernel
theorem dX9_leastValue_2 : decode cX9_leastValue 2 = .ok (.iconst 0, 1) := by decide +kernel
theorem dX9_leastValue_3 : decode cX9_leastValue 3 = .ok (.istore 4, 2) := by decide +kernel
theorem dX9_leastValue_5 : decode cX9_leastValue 5 = .ok (.iload 4, 2) := by decide +kernel
theorem dX9_leastValue_7 : decode cX9_leastValue 7 = .ok (.iconst 2, 1) := by decide +kernel
theorem dX9_leastValue_8 : decode cX9_leastValue 8 = .ok (.aload_n 0, 1) := by decide +kernel
theorem dX9_leastValue_9 : decode cX9_leastValue 9 = .ok (.getfield 101, 3) := by decide +kernel
theorem dX9_leastValue_12 : decode cX9_leastValue 12 = .ok (.imul, 1) := by decide +kernel
theorem dX9_leastValue_13 : decode cX9_leastValue 13 = .ok (.if_icmp .ge 96, 3) := by decide +kernel
theorem dX9_leastValue_16 : decode cX9_leastValue 16 = .ok (.aload_n 0, 1) := by decide +kernel
theorem dX9_leastValue_17 : decode cX9_leastValue 17 = .ok (.iload 4, 2) := by decide +kernel
theorem dX9_leastValue_19 : decode cX9_leastValue 19 = .ok (.invokevirtual 148, 3) := by decide +kernel
theorem dX9_leastValue_22 : decode cX9_leastValue 22 = .ok (.ifCond .eq 45, 3) := by decide +kernel
theorem dX9_leastValue_25 : decode cX9_leastValue 25 = .ok (.aload_n 0, 1) := by decide +kernel
theorem dX9_leastValue_26 : decode cX9_leastValue 26 = .ok (.iload 4, 2) := by decide +kernel
theorem dX9_leastValue_28 : decode cX9_leastValue 28 = .ok (.invokevirtual 159, 3) := by decide +kernel
theorem dX9_leastValue_31 : decode cX9_leastValue 31 = .ok (.iload_n 2, 1) := by decide +kernel
theorem dX9_leastValue_32 : decode cX9_leastValue 32 = .ok (.if_icmp .ne 35, 3) := by decide +kernel
theorem dX9_leastValue_35 : decode cX9_leastValue 35 = .ok (.iload_n 2, 1) := by decide +kernel
theorem dX9_leastValue_36 : decode cX9_leastValue 36 = .ok (.iconst 2, 1) := by decide +kernel
theorem dX9_leastValue_37 : decode cX9_leastValue 37 = .ok (.if_icmp .ne 16, 3) := by decide +kernel
theorem dX9_leastValue_40 : decode cX9_leastValue 40 = .ok (.aload_n 0, 1) := by decide +kernel
theorem dX9_leastValue_41 : decode cX9_leastValue 41 = .ok (.iload 4, 2) := by decide +kernel
theorem dX9_leastValue_43 : decode cX9_leastValue 43 = .ok (.invokevirtual 165, 3) := by decide +kernel
theorem dX9_leastValue_46 : decode cX9_leastValue 46 = .ok (.iload_n 1, 1) := by decide +kernel
theorem dX9_leastValue_47 : decode cX9_leastValue 47 = .ok (.if_icmp .ne 20, 3) := by decide +kernel
theorem dX9_leastValue_50 : decode cX9_leastValue 50 = .ok (.goto 13, 3) := by decide +kernel
theorem dX9_leastValue_53 : decode cX9_leastValue 53 = .ok (.aload_n 0, 1) := by decide +kernel
theorem dX9_leastValue_54 : decode cX9_leastValue 54 = .ok (.iload 4, 2) := by decide +kernel
theorem dX9_leastValue_56 : decode cX9_leastValue 56 = .ok (.invokevirtual 151, 3) := by decide +kernel
theorem dX9_leastValue_59 : decode cX9_leastValue 59 = .ok (.iload_n 1, 1) := by decide +kernel
theorem dX9_leastValue_60 : decode cX9_leastValue 60 = .ok (.if_icmp .ne 7, 3) := by decide +kernel
theorem dX9_leastValue_63 : decode cX9_leastValue 63 = .ok (.iconst 1, 1) := by decide +kernel
theorem dX9_leastValue_64 : decode cX9_leastValue 64 = .ok (.goto 4, 3) := by decide +kernel
theorem dX9_leastValue_67 : decode cX9_leastValue 67 = .ok (.iconst 0, 1) := by decide +kernel
theorem dX9_leastValue_68 : decode cX9_leastValue 68 = .ok (.istore 5, 2) := by decide +kernel
theorem dX9_leastValue_70 : decode cX9_leastValue 70 = .ok (.iload 5, 2) := by decide +kernel
theorem dX9_leastValue_72 : decode cX9_leastValue 72 = .ok (.ifCond .eq 29, 3) := by decide +kernel
theorem dX9_leastValue_75 : decode cX9_leastValue 75 = .ok (.iload_n 3, 1) := by decide +kernel
theorem dX9_leastValue_76 : decode cX9_leastValue 76 = .ok (.iconst (-1), 1) := by decide +kernel
theorem dX9_leastValue_77 : decode cX9_leastValue 77 = .ok (.if_icmp .eq 14, 3) := by decide +kernel
theorem dX9_leastValue_80 : decode cX9_leastValue 80 = .ok (.aload_n 0, 1) := by decide +kernel
theorem dX9_leastValue_81 : decode cX9_leastValue 81 = .ok (.getfield 33, 3) := by decide +kernel
theorem dX9_leastValue_84 : decode cX9_leastValue 84 = .ok (.iload 4, 2) := by decide +kernel
theorem dX9_leastValue_86 : decode cX9_leastValue 86 = .ok (.iaload, 1) := by decide +kernel
theorem dX9_leastValue_87 : decode cX9_leastValue 87 = .ok (.iload_n 3, 1) := by decide +kernel
theorem dX9_leastValue_88 : decode cX9_leastValue 88 = .ok (.if_icmp .ge 13, 3) := by decide +kernel
theorem dX9_leastValue_91 : decode cX9_leastValue 91 = .ok (.aload_n 0, 1) := by decide +kernel
theorem dX9_leastValue_92 : decode cX9_leastValue 92 = .ok (.getfield 33, 3) := by decide +kernel
theorem dX9_leastValue_95 : decode cX9_leastValue 95 = .ok (.iload 4, 2) := by decide +kernel
theorem dX9_leastValue_97 : decode cX9_leastValue 97 = .ok (.iaload, 1) := by decide +kernel
theorem dX9_leastValue_98 : decode cX9_leastValue 98 = .ok (.goto 4, 3) := by decide +kernel
theorem dX9_leastValue_101 : decode cX9_leastValue 101 = .ok (.iload_n 3, 1) := by decide +kernel
theorem dX9_leastValue_102 : decode cX9_leastValue 102 = .ok (.istore_n 3, 1) := by decide +kernel
theorem dX9_leastValue_103 : decode cX9_leastValue 103 = .ok (.iinc 4 1, 3) := by decide +kernel
theorem dX9_leastValue_106 : decode cX9_leastValue 106 = .ok (.goto (-101), 3) := by decide +kernel
theorem dX9_leastValue_109 : decode cX9_leastValue 109 = .ok (.iload_n 3, 1) := by decide +kernel
theorem dX9_leastValue_110 : decode cX9_leastValue 110 = .ok (.ireturn, 1) := by decide +kernel
theorem dX9_findNow_0 : decode cX9_findNow 0 = .ok (.aload_n 0, 1) := by decide +kernel
theorem dX9_findNow_1 : decode cX9_findNow 1 = .ok (.getfield 122, 3) := by decide +kernel
theorem dX9_findNow_4 : decode cX9_findNow 4 = .ok (.ifCond .le 7, 3) := by decide +kernel
theorem dX9_findNow_7 : decode cX9_findNow 7 = .ok (.iconst 1, 1) := by decide +kernel
theorem dX9_findNow_8 : decode cX9_findNow 8 = .ok (.goto 4, 3) := by decide +kernel
theorem dX9_findNow_11 : decode cX9_findNow 11 = .ok (.iconst 0, 1) := by decide +kernel
theorem dX9_findNow_12 : decode cX9_findNow 12 = .ok (.istore_n 1, 1) := by decide +kernel
theorem dX9_findNow_13 : decode cX9_findNow 13 = .ok (.iconst 0, 1) := by decide +kernel
theorem dX9_findNow_14 : decode cX9_findNow 14 = .ok (.istore_n 2, 1) := by decide +kernel
theorem dX9_findNow_15 : decode cX9_findNow 15 = .ok (.iload_n 2, 1) := by decide +kernel
theorem dX9_findNow_16 : decode cX9_findNow 16 = .ok (.aload_n 0, 1) := by decide +kernel
theorem dX9_findNow_17 : decode cX9_findNow 17 = .ok (.getfield 122, 3) := by decide +kernel
theorem dX9_findNow_20 : decode cX9_findNow 20 = .ok (.if_icmp .ge 35, 3) := by decide +kernel
theorem dX9_findNow_23 : decode cX9_findNow 23 = .ok (.iload_n 1, 1) := by decide +kernel
theorem dX9_findNow_24 : decode cX9_findNow 24 = .ok (.ifCond .eq 23, 3) := by decide +kernel
theorem dX9_findNow_27 : decode cX9_findNow 27 = .ok (.aload_n 0, 1) := by decide +kernel
theorem dX9_findNow_28 : decode cX9_findNow 28 = .ok (.aload_n 0, 1) := by decide +kernel
theorem dX9_findNow_29 : decode cX9_findNow 29 = .ok (.getfield 23, 3) := by decide +kernel
theorem dX9_findNow_32 : decode cX9_findNow 32 = .ok (.iload_n 2, 1) := by decide +kernel
theorem dX9_findNow_33 : decode cX9_findNow 33 = .ok (.iaload, 1) := by decide +kernel
theorem dX9_findNow_34 : decode cX9_findNow 34 = .ok (.bipush 97, 2) := by decide +kernel
theorem dX9_findNow_36 : decode cX9_findNow 36 = .ok (.isub, 1) := by decide +kernel
theorem dX9_findNow_37 : decode cX9_findNow 37 = .ok (.invokevirtual 107, 3) := by decide +kernel
theorem dX9_findNow_40 : decode cX9_findNow 40 = .ok (.ifCond .eq 7, 3) := by decide +kernel
theorem dX9_findNow_43 : decode cX9_findNow 43 = .ok (.iconst 1, 1) := by decide +kernel
theorem dX9_findNow_44 : decode cX9_findNow 44 = .ok (.goto 4, 3) := by decide +kernel
theorem dX9_findNow_47 : decode cX9_findNow 47 = .ok (.iconst 0, 1) := by decide +kernel
theorem dX9_findNow_48 : decode cX9_findNow 48 = .ok (.istore_n 1, 1) := by decide +kernel
theorem dX9_findNow_49 : decode cX9_findNow 49 = .ok (.iinc 2 1, 3) := by decide +kernel
theorem dX9_findNow_52 : decode cX9_findNow 52 = .ok (.goto (-37), 3) := by decide +kernel
theorem dX9_findNow_55 : decode cX9_findNow 55 = .ok (.iload_n 1, 1) := by decide +kernel
theorem dX9_findNow_56 : decode cX9_findNow 56 = .ok (.ifCond .ne 5, 3) := by decide +kernel
theorem dX9_findNow_59 : decode cX9_findNow 59 = .ok (.iconst (-1), 1) := by decide +kernel
theorem dX9_findNow_60 : decode cX9_findNow 60 = .ok (.ireturn, 1) := by decide +kernel
theorem dX9_findNow_61 : decode cX9_findNow 61 = .ok (.aload_n 0, 1) := by decide +kernel
theorem dX9_findNow_62 : decode cX9_findNow 62 = .ok (.getfield 23, 3) := by decide +kernel
theorem dX9_findNow_65 : decode cX9_findNow 65 = .ok (.iconst 0, 1) := by decide +kernel
theorem dX9_findNow_66 : decode cX9_findNow 66 = .ok (.iaload, 1) := by decide +kernel
theorem dX9_findNow_67 : decode cX9_findNow 67 = .ok (.bipush 97, 2) := by decide +kernel
theorem dX9_findNow_69 : decode cX9_findNow 69 = .ok (.isub, 1) := by decide +kernel
theorem dX9_findNow_70 : decode cX9_findNow 70 = .ok (.istore_n 2, 1) := by decide +kernel
theorem dX9_findNow_71 : decode cX9_findNow 71 = .ok (.aload_n 0, 1) := by decide +kernel
theorem dX9_findNow_72 : decode cX9_findNow 72 = .ok (.getfield 23, 3) := by decide +kernel
theorem dX9_findNow_75 : decode cX9_findNow 75 = .ok (.aload_n 0, 1) := by decide +kernel
theorem dX9_findNow_76 : decode cX9_findNow 76 = .ok (.getfield 122, 3) := by decide +kernel
theorem dX9_findNow_79 : decode cX9_findNow 79 = .ok (.iconst 1, 1) := by decide +kernel
theorem dX9_findNow_80 : decode cX9_findNow 80 = .ok (.isub, 1) := by decide +kernel
theorem dX9_findNow_81 : decode cX9_findNow 81 = .ok (.iaload, 1) := by decide +kernel
theorem dX9_findNow_82 : decode cX9_findNow 82 = .ok (.bipush 97, 2) := by decide +kernel
theorem dX9_findNow_84 : decode cX9_findNow 84 = .ok (.isub, 1) := by decide +kernel
theorem dX9_findNow_85 : decode cX9_findNow 85 = .ok (.istore_n 3, 1) := by decide +kernel
theorem dX9_findNow_86 : decode cX9_findNow 86 = .ok (.iload_n 2, 1) := by decide +kernel
theorem dX9_findNow_87 : decode cX9_findNow 87 = .ok (.ifCond .ne 7, 3) := by decide +kernel
theorem dX9_findNow_90 : decode cX9_findNow 90 = .ok (.iconst 0, 1) := by decide +kernel
theorem dX9_findNow_91 : decode cX9_findNow 91 = .ok (.goto 9, 3) := by decide +kernel
theorem dX9_findNow_94 : decode cX9_findNow 94 = .ok (.aload_n 0, 1) := by decide +kernel
theorem dX9_findNow_95 : decode cX9_findNow 95 = .ok (.iload_n 2, 1) := by decide +kernel
theorem dX9_findNow_96 : decode cX9_findNow 96 = .ok (.iconst 2, 1) := by decide +kernel
theorem dX9_findNow_97 : decode cX9_findNow 97 = .ok (.invokevirtual 231, 3) := by decide +kernel
theorem dX9_findNow_100 : decode cX9_findNow 100 = .ok (.istore 4, 2) := by decide +kernel
theorem dX9_findNow_102 : decode cX9_findNow 102 = .ok (.iload_n 3, 1) := by decide +kernel
theorem dX9_findNow_103 : decode cX9_findNow 103 = .ok (.aload_n 0, 1) := by decide +kernel
theorem dX9_findNow_104 : decode cX9_findNow 104 = .ok (.getfield 7, 3) := by decide +kernel
theorem dX9_findNow_107 : decode cX9_findNow 107 = .ok (.iconst 1, 1) := by decide +kernel
theorem dX9_findNow_108 : decode cX9_findNow 108 = .ok (.isub, 1) := by decide +kernel
theorem dX9_findNow_109 : decode cX9_findNow 109 = .ok (.if_icmp .ne 7, 3) := by decide +kernel
theorem dX9_findNow_112 : decode cX9_findNow 112 = .ok (.iconst 0, 1) := by decide +kernel
theorem dX9_findNow_113 : decode cX9_findNow 113 = .ok (.goto 9, 3) := by decide +kernel
theorem dX9_findNow_116 : decode cX9_findNow 116 = .ok (.aload_n 0, 1) := by decide +kernel
theorem dX9_findNow_117 : decode cX9_findNow 117 = .ok (.iload_n 3, 1) := by decide +kernel
theorem dX9_findNow_118 : decode cX9_findNow 118 = .ok (.iconst 1, 1) := by decide +kernel
theorem dX9_findNow_119 : decode cX9_findNow 119 = .ok (.invokevirtual 231, 3) := by decide +kernel
theorem dX9_findNow_122 : decode cX9_findNow 122 = .ok (.istore 5, 2) := by decide +kernel
theorem dX9_findNow_124 : decode cX9_findNow 124 = .ok (.iload 4, 2) := by decide +kernel
theorem dX9_findNow_126 : decode cX9_findNow 126 = .ok (.iconst (-1), 1) := by decide +kernel
theorem dX9_findNow_127 : decode cX9_findNow 127 = .ok (.if_icmp .eq 9, 3) := by decide +kernel
theorem dX9_findNow_130 : decode cX9_findNow 130 = .ok (.iload 5, 2) := by decide +kernel
theorem dX9_findNow_132 : decode cX9_findNow 132 = .ok (.iconst (-1), 1) := by decide +kernel
theorem dX9_findNow_133 : decode cX9_findNow 133 = .ok (.if_icmp .ne 5, 3) := by decide +kernel
theorem dX9_findNow_136 : decode cX9_findNow 136 = .ok (.iconst (-1), 1) := by decide +kernel
theorem dX9_findNow_137 : decode cX9_findNow 137 = .ok (.ireturn, 1) := by decide +kernel
theorem dX9_findNow_138 : decode cX9_findNow 138 = .ok (.iload 4, 2) := by decide +kernel
theorem dX9_findNow_140 : decode cX9_findNow 140 = .ok (.iload 5, 2) := by decide +kernel
theorem dX9_findNow_142 : decode cX9_findNow 142 = .ok (.iadd, 1) := by decide +kernel
theorem dX9_findNow_143 : decode cX9_findNow 143 = .ok (.istore 4, 2) := by decide +kernel
theorem dX9_findNow_145 : decode cX9_findNow 145 = .ok (.iconst 1, 1) := by decide +kernel
theorem dX9_findNow_146 : decode cX9_findNow 146 = .ok (.istore 6, 2) := by decide +kernel
theorem dX9_findNow_148 : decode cX9_findNow 148 = .ok (.iload 6, 2) := by decide +kernel
theorem dX9_findNow_150 : decode cX9_findNow 150 = .ok (.aload_n 0, 1) := by decide +kernel
theorem dX9_findNow_151 : decode cX9_findNow 151 = .ok (.getfield 122, 3) := by decide +kernel
theorem dX9_findNow_154 : decode cX9_findNow 154 = .ok (.if_icmp .ge 69, 3) := by decide +kernel
theorem dX9_findNow_157 : decode cX9_findNow 157 = .ok (.aload_n 0, 1) := by decide +kernel
theorem dX9_findNow_158 : decode cX9_findNow 158 = .ok (.aload_n 0, 1) := by decide +kernel
theorem dX9_findNow_159 : decode cX9_findNow 159 = .ok (.getfield 23, 3) := by decide +kernel
theorem dX9_findNow_162 : decode cX9_findNow 162 = .ok (.iload 6, 2) := by decide +kernel
theorem dX9_findNow_164 : decode cX9_findNow 164 = .ok (.iconst 1, 1) := by decide +kernel
theorem dX9_findNow_165 : decode cX9_findNow 165 = .ok (.isub, 1) := by decide +kernel
theorem dX9_findNow_166 : decode cX9_findNow 166 = .ok (.iaload, 1) := by decide +kernel
theorem dX9_findNow_167 : decode cX9_findNow 167 = .ok (.bipush 97, 2) := by decide +kernel
theorem dX9_findNow_169 : decode cX9_findNow 169 = .ok (.isub, 1) := by decide +kernel
theorem dX9_findNow_170 : decode cX9_findNow 170 = .ok (.aload_n 0, 1) := by decide +kernel
theorem dX9_findNow_171 : decode cX9_findNow 171 = .ok (.getfield 23, 3) := by decide +kernel
theorem dX9_findNow_174 : decode cX9_findNow 174 = .ok (.iload 6, 2) := by decide +kernel
theorem dX9_findNow_176 : decode cX9_findNow 176 = .ok (.iaload, 1) := by decide +kernel
theorem dX9_findNow_177 : decode cX9_findNow 177 = .ok (.bipush 97, 2) := by decide +kernel
theorem dX9_findNow_179 : decode cX9_findNow 179 = .ok (.isub, 1) := by decide +kernel
theorem dX9_findNow_180 : decode cX9_findNow 180 = .ok (.invokevirtual 111, 3) := by decide +kernel
theorem dX9_findNow_183 : decode cX9_findNow 183 = .ok (.istore 7, 2) := by decide +kernel
theorem dX9_findNow_185 : decode cX9_findNow 185 = .ok (.iload 7, 2) := by decide +kernel
theorem dX9_findNow_187 : decode cX9_findNow 187 = .ok (.iconst (-1), 1) := by decide +kernel
theorem dX9_findNow_188 : decode cX9_findNow 188 = .ok (.if_icmp .eq 13, 3) := by decide +kernel
theorem dX9_findNow_191 : decode cX9_findNow 191 = .ok (.aload_n 0, 1) := by decide +kernel
theorem dX9_findNow_192 : decode cX9_findNow 192 = .ok (.getfield 26, 3) := by decide +kernel
theorem dX9_findNow_195 : decode cX9_findNow 195 = .ok (.iload 7, 2) := by decide +kernel
theorem dX9_findNow_197 : decode cX9_findNow 197 = .ok (.baload, 1) := by decide +kernel
theorem dX9_findNow_198 : decode cX9_findNow 198 = .ok (.ifCond .eq 5, 3) := by decide +kernel
theorem dX9_findNow_201 : decode cX9_findNow 201 = .ok (.iconst (-1), 1) := by decide +kernel
theorem dX9_findNow_202 : decode cX9_findNow 202 = .ok (.ireturn, 1) := by decide +kernel
theorem dX9_findNow_203 : decode cX9_findNow 203 = .ok (.iload 4, 2) := by decide +kernel
theorem dX9_findNow_205 : decode cX9_findNow 205 = .ok (.aload_n 0, 1) := by decide +kernel
theorem dX9_findNow_206 : decode cX9_findNow 206 = .ok (.getfield 33, 3) := by decide +kernel
theorem dX9_findNow_209 : decode cX9_findNow 209 = .ok (.iconst 2, 1) := by decide +kernel
theorem dX9_findNow_210 : decode cX9_findNow 210 = .ok (.iload 7, 2) := by decide +kernel
theorem dX9_findNow_212 : decode cX9_findNow 212 = .ok (.imul, 1) := by decide +kernel
theorem dX9_findNow_213 : decode cX9_findNow 213 = .ok (.iaload, 1) := by decide +kernel
theorem dX9_findNow_214 : decode cX9_findNow 214 = .ok (.iadd, 1) := by decide +kernel
theorem dX9_findNow_215 : decode cX9_findNow 215 = .ok (.istore 4, 2) := by decide +kernel
theorem dX9_findNow_217 : decode cX9_findNow 217 = .ok (.iinc 6 1, 3) := by decide +kernel
theorem dX9_findNow_220 : decode cX9_findNow 220 = .ok (.goto (-72), 3) := by decide +kernel
theorem dX9_findNow_223 : decode cX9_findNow 223 = .ok (.iload 4, 2) := by decide +kernel
theorem dX9_findNow_225 : decode cX9_findNow 225 = .ok (.ireturn, 1) := by decide +kernel
theorem dX9_findPath_0 : decode cX9_findPath 0 = .ok (.aload_n 0, 1) := by decide +kernel
theorem dX9_findPath_1 : decode cX9_findPath 1 = .ok (.aload_n 0, 1) := by decide +kernel
theorem dX9_findPath_2 : decode cX9_findPath 2 = .ok (.getfield 84, 3) := by decide +kernel
theorem dX9_findPath_5 : decode cX9_findPath 5 = .ok (.ifCond .eq 7, 3) := by decide +kernel
theorem dX9_findPath_8 : decode cX9_findPath 8 = .ok (.iconst 0, 1) := by decide +kernel
theorem dX9_findPath_9 : decode cX9_findPath 9 = .ok (.goto 4, 3) := by decide +kernel
theorem dX9_findPath_12 : decode cX9_findPath 12 = .ok (.iconst 1, 1) := by decide +kernel
theorem dX9_findPath_13 : decode cX9_findPath 13 = .ok (.putfield 81, 3) := by decide +kernel
theorem dX9_findPath_16 : decode cX9_findPath 16 = .ok (.aload_n 0, 1) := by decide +kernel
theorem dX9_findPath_17 : decode cX9_findPath 17 = .ok (.getfield 81, 3) := by decide +kernel
theorem dX9_findPath_20 : decode cX9_findPath 20 = .ok (.ifCond .le 7, 3) := by decide +kernel
theorem dX9_findPath_23 : decode cX9_findPath 23 = .ok (.iconst 0, 1) := by decide +kernel
theorem dX9_findPath_24 : decode cX9_findPath 24 = .ok (.goto 7, 3) := by decide +kernel
theorem dX9_findPath_27 : decode cX9_findPath 27 = .ok (.aload_n 0, 1) := by decide +kernel
theorem dX9_findPath_28 : decode cX9_findPath 28 = .ok (.invokevirtual 234, 3) := by decide +kernel
theorem dX9_findPath_31 : decode cX9_findPath 31 = .ok (.ireturn, 1) := by decide +kernel
theorem dX9_counts_0 : decode cX9_counts 0 = .ok (.aload_n 0, 1) := by decide +kernel
theorem dX9_counts_1 : decode cX9_counts 1 = .ok (.getfield 84, 3) := by decide +kernel
theorem dX9_counts_4 : decode cX9_counts 4 = .ok (.ifCond .eq 19, 3) := by decide +kernel
theorem dX9_counts_7 : decode cX9_counts 7 = .ok (.aload_n 0, 1) := by decide +kernel
theorem dX9_counts_8 : decode cX9_counts 8 = .ok (.getfield 30, 3) := by decide +kernel
theorem dX9_counts_11 : decode cX9_counts 11 = .ok (.iconst 0, 1) := by decide +kernel
theorem dX9_counts_12 : decode cX9_counts 12 = .ok (.iaload, 1) := by decide +kernel
theorem dX9_counts_13 : decode cX9_counts 13 = .ok (.sipush 200, 3) := by decide +kernel
theorem dX9_counts_16 : decode cX9_counts 16 = .ok (.if_icmp .gt 7, 3) := by decide +kernel
theorem dX9_counts_19 : decode cX9_counts 19 = .ok (.iconst 1, 1) := by decide +kernel
theorem dX9_counts_20 : decode cX9_counts 20 = .ok (.goto 4, 3) := by decide +kernel
theorem dX9_counts_23 : decode cX9_counts 23 = .ok (.iconst 0, 1) := by decide +kernel
theorem dX9_counts_24 : decode cX9_counts 24 = .ok (.ireturn, 1) := by decide +kernel
theorem dX9_start_0 : decode cX9_start 0 = .ok (.aload_n 0, 1) := by decide +kernel
theorem dX9_start_1 : decode cX9_start 1 = .ok (.aload_n 0, 1) := by decide +kernel
theorem dX9_start_2 : decode cX9_start 2 = .ok (.invokevirtual 237, 3) := by decide +kernel
theorem dX9_start_5 : decode cX9_start 5 = .ok (.ifCond .eq 7, 3) := by decide +kernel
theorem dX9_start_8 : decode cX9_start 8 = .ok (.iconst 0, 1) := by decide +kernel
theorem dX9_start_9 : decode cX9_start 9 = .ok (.goto 4, 3) := by decide +kernel
theorem dX9_start_12 : decode cX9_start 12 = .ok (.iconst 1, 1) := by decide +kernel
theorem dX9_start_13 : decode cX9_start 13 = .ok (.putfield 81, 3) := by decide +kernel
theorem dX9_start_16 : decode cX9_start 16 = .ok (.aload_n 0, 1) := by decide +kernel
theorem dX9_start_17 : decode cX9_start 17 = .ok (.getfield 81, 3) := by decide +kernel
theorem dX9_start_20 : decode cX9_start 20 = .ok (.ifCond .ne 23, 3) := by decide +kernel
theorem dX9_start_23 : decode cX9_start 23 = .ok (.aload_n 0, 1) := by decide +kernel
theorem dX9_start_24 : decode cX9_start 24 = .ok (.iconst 1, 1) := by decide +kernel
theorem dX9_start_25 : decode cX9_start 25 = .ok (.putfield 88, 3) := by decide +kernel
theorem dX9_start_28 : decode cX9_start 28 = .ok (.aload_n 0, 1) := by decide +kernel
theorem dX9_start_29 : decode cX9_start 29 = .ok (.iconst 0, 1) := by decide +kernel
theorem dX9_start_30 : decode cX9_start 30 = .ok (.putfield 91, 3) := by decide +kernel
theorem dX9_start_33 : decode cX9_start 33 = .ok (.aload_n 0, 1) := by decide +kernel
theorem dX9_start_34 : decode cX9_start 34 = .ok (.iconst 0, 1) := by decide +kernel
theorem dX9_start_35 : decode cX9_start 35 = .ok (.putfield 239, 3) := by decide +kernel
theorem dX9_start_38 : decode cX9_start 38 = .ok (.aload_n 0, 1) := by decide +kernel
theorem dX9_start_39 : decode cX9_start 39 = .ok (.iconst 0, 1) := by decide +kernel
theorem dX9_start_40 : decode cX9_start 40 = .ok (.putfield 94, 3) := by decide +kernel
theorem dX9_start_43 : decode cX9_start 43 = .ok (.return_, 1) := by decide +kernel
theorem dX9_edgeAt_0 : decode cX9_edgeAt 0 = .ok (.iload_n 2, 1) := by decide +kernel
theorem dX9_edgeAt_1 : decode cX9_edgeAt 1 = .ok (.istore_n 3, 1) := by decide +kernel
theorem dX9_edgeAt_2 : decode cX9_edgeAt 2 = .ok (.iconst 0, 1) := by decide +kernel
theorem dX9_edgeAt_3 : decode cX9_edgeAt 3 = .ok (.istore 4, 2) := by decide +kernel
theorem dX9_edgeAt_5 : decode cX9_edgeAt 5 = .ok (.iload 4, 2) := by decide +kernel
theorem dX9_edgeAt_7 : decode cX9_edgeAt 7 = .ok (.aload_n 0, 1) := by decide +kernel
theorem dX9_edgeAt_8 : decode cX9_edgeAt 8 = .ok (.getfield 101, 3) := by decide +kernel
theorem dX9_edgeAt_11 : decode cX9_edgeAt 11 = .ok (.if_icmp .ge 34, 3) := by decide +kernel
theorem dX9_edgeAt_14 : decode cX9_edgeAt 14 = .ok (.iload_n 2, 1) := by decide +kernel
theorem dX9_edgeAt_15 : decode cX9_edgeAt 15 = .ok (.ifCond .lt 30, 3) := by decide +kernel
theorem dX9_edgeAt_18 : decode cX9_edgeAt 18 = .ok (.aload_n 0, 1) := by decide +kernel
theorem dX9_edgeAt_19 : decode cX9_edgeAt 19 = .ok (.getfield 13, 3) := by decide +kernel
theorem dX9_edgeAt_22 : decode cX9_edgeAt 22 = .ok (.iload 4, 2) := by decide +kernel
theorem dX9_edgeAt_24 : decode cX9_edgeAt 24 = .ok (.iaload, 1) := by decide +kernel
theorem dX9_edgeAt_25 : decode cX9_edgeAt 25 = .ok (.iload_n 1, 1) := by decide +kernel
theorem dX9_edgeAt_26 : decode cX9_edgeAt 26 = .ok (.if_icmp .ne 13, 3) := by decide +kernel
theorem dX9_edgeAt_29 : decode cX9_edgeAt 29 = .ok (.iload_n 3, 1) := by decide +kernel
theorem dX9_edgeAt_30 : decode cX9_edgeAt 30 = .ok (.ifCond .ne 6, 3) := by decide +kernel
theorem dX9_edgeAt_33 : decode cX9_edgeAt 33 = .ok (.iload 4, 2) := by decide +kernel
theorem dX9_edgeAt_35 : decode cX9_edgeAt 35 = .ok (.ireturn, 1) := by decide +kernel
theorem dX9_edgeAt_36 : decode cX9_edgeAt 36 = .ok (.iinc 3 (-1), 3) := by decide +kernel
theorem dX9_edgeAt_39 : decode cX9_edgeAt 39 = .ok (.iinc 4 1, 3) := by decide +kernel
theorem dX9_edgeAt_42 : decode cX9_edgeAt 42 = .ok (.goto (-37), 3) := by decide +kernel
theorem dX9_edgeAt_45 : decode cX9_edgeAt 45 = .ok (.iconst (-1), 1) := by decide +kernel
theorem dX9_edgeAt_46 : decode cX9_edgeAt 46 = .ok (.ireturn, 1) := by decide +kernel
theorem dX9_step_0 : decode cX9_step 0 = .ok (.aload_n 0, 1) := by decide +kernel
theorem dX9_step_1 : decode cX9_step 1 = .ok (.getfield 88, 3) := by decide +kernel
theorem dX9_step_4 : decode cX9_step 4 = .ok (.ifCond .eq 14, 3) := by decide +kernel
theorem dX9_step_7 : decode cX9_step 7 = .ok (.aload_n 0, 1) := by decide +kernel
theorem dX9_step_8 : decode cX9_step 8 = .ok (.getfield 91, 3) := by decide +kernel
theorem dX9_step_11 : decode cX9_step 11 = .ok (.ifCond .ne 7, 3) := by decide +kernel
theorem dX9_step_14 : decode cX9_step 14 = .ok (.iconst 1, 1) := by decide +kernel
theorem dX9_step_15 : decode cX9_step 15 = .ok (.goto 4, 3) := by decide +kernel
theorem dX9_step_18 : decode cX9_step 18 = .ok (.iconst 0, 1) := by decide +kernel
theorem dX9_step_19 : decode cX9_step 19 = .ok (.istore_n 2, 1) := by decide +kernel
theorem dX9_step_20 : decode cX9_step 20 = .ok (.iload_n 2, 1) := by decide +kernel
theorem dX9_step_21 : decode cX9_step 21 = .ok (.ifCond .eq 15, 3) := by decide +kernel
theorem dX9_step_24 : decode cX9_step 24 = .ok (.aload_n 0, 1) := by decide +kernel
theorem dX9_step_25 : decode cX9_step 25 = .ok (.aload_n 0, 1) := by decide +kernel
theorem dX9_step_26 : decode cX9_step 26 = .ok (.getfield 239, 3) := by decide +kernel
theorem dX9_step_29 : decode cX9_step 29 = .ok (.iload_n 1, 1) := by decide +kernel
theorem dX9_step_30 : decode cX9_step 30 = .ok (.invokevirtual 242, 3) := by decide +kernel
theorem dX9_step_33 : decode cX9_step 33 = .ok (.goto 4, 3) := by decide +kernel
theorem dX9_step_36 : decode cX9_step 36 = .ok (.iconst (-1), 1) := by decide +kernel
theorem dX9_step_37 : decode cX9_step 37 = .ok (.istore_n 3, 1) := by decide +kernel
theorem dX9_step_38 : decode cX9_step 38 = .ok (.aload_n 0, 1) := by decide +kernel
theorem dX9_step_39 : decode cX9_step 39 = .ok (.iload_n 2, 1) := by decide +kernel
theorem dX9_step_40 : decode cX9_step 40 = .ok (.ifCond .ne 7, 3) := by decide +kernel
theorem dX9_step_43 : decode cX9_step 43 = .ok (.iconst 1, 1) := by decide +kernel
theorem dX9_step_44 : decode cX9_step 44 = .ok (.goto 13, 3) := by decide +kernel
theorem dX9_step_47 : decode cX9_step 47 = .ok (.iload_n 3, 1) := by decide +kernel
theorem dX9_step_48 : decode cX9_step 48 = .ok (.iconst (-1), 1) := by decide +kernel
theorem dX9_step_49 : decode cX9_step 49 = .ok (.if_icmp .ne 7, 3) := by decide +kernel
theorem dX9_step_52 : decode cX9_step 52 = .ok (.iconst 2, 1) := by decide +kernel
theorem dX9_step_53 : decode cX9_step 53 = .ok (.goto 4, 3) := by decide +kernel
theorem dX9_step_56 : decode cX9_step 56 = .ok (.iconst 0, 1) := by decide +kernel
theorem dX9_step_57 : decode cX9_step 57 = .ok (.putfield 81, 3) := by decide +kernel
theorem dX9_step_60 : decode cX9_step 60 = .ok (.aload_n 0, 1) := by decide +kernel
theorem dX9_step_61 : decode cX9_step 61 = .ok (.getfield 81, 3) := by decide +kernel
theorem dX9_step_64 : decode cX9_step 64 = .ok (.ifCond .le 5, 3) := by decide +kernel
theorem dX9_step_67 : decode cX9_step 67 = .ok (.iconst 0, 1) := by decide +kernel
theorem dX9_step_68 : decode cX9_step 68 = .ok (.ireturn, 1) := by decide +kernel
theorem dX9_step_69 : decode cX9_step 69 = .ok (.aload_n 0, 1) := by decide +kernel
theorem dX9_step_70 : decode cX9_step 70 = .ok (.dup, 1) := by decide +kernel
theorem dX9_step_71 : decode cX9_step 71 = .ok (.getfield 94, 3) := by decide +kernel
theorem dX9_step_74 : decode cX9_step 74 = .ok (.aload_n 0, 1) := by decide +kernel
theorem dX9_step_75 : decode cX9_step 75 = .ok (.getfield 36, 3) := by decide +kernel
theorem dX9_step_78 : decode cX9_step 78 = .ok (.iconst 2, 1) := by decide +kernel
theorem dX9_step_79 : decode cX9_step 79 = .ok (.iload_n 3, 1) := by decide +kernel
theorem dX9_step_80 : decode cX9_step 80 = .ok (.imul, 1) := by decide +kernel
theorem dX9_step_81 : decode cX9_step 81 = .ok (.iaload, 1) := by decide +kernel
theorem dX9_step_82 : decode cX9_step 82 = .ok (.iadd, 1) := by decide +kernel
theorem dX9_step_83 : decode cX9_step 83 = .ok (.putfield 94, 3) := by decide +kernel
theorem dX9_step_86 : decode cX9_step 86 = .ok (.aload_n 0, 1) := by decide +kernel
theorem dX9_step_87 : decode cX9_step 87 = .ok (.aload_n 0, 1) := by decide +kernel
theorem dX9_step_88 : decode cX9_step 88 = .ok (.getfield 17, 3) := by decide +kernel
theorem dX9_step_91 : decode cX9_step 91 = .ok (.iload_n 3, 1) := by decide +kernel
theorem dX9_step_92 : decode cX9_step 92 = .ok (.iaload, 1) := by decide +kernel
theorem dX9_step_93 : decode cX9_step 93 = .ok (.putfield 239, 3) := by decide +kernel
theorem dX9_step_96 : decode cX9_step 96 = .ok (.aload_n 0, 1) := by decide +kernel
theorem dX9_step_97 : decode cX9_step 97 = .ok (.getfield 26, 3) := by decide +kernel
theorem dX9_step_100 : decode cX9_step 100 = .ok (.iload_n 3, 1) := by decide +kernel
theorem dX9_step_101 : decode cX9_step 101 = .ok (.baload, 1) := by decide +kernel
theorem dX9_step_102 : decode cX9_step 102 = .ok (.ifCond .eq 33, 3) := by decide +kernel
theorem dX9_step_105 : decode cX9_step 105 = .ok (.aload_n 0, 1) := by decide +kernel
theorem dX9_step_106 : decode cX9_step 106 = .ok (.getfield 42, 3) := by decide +kernel
theorem dX9_step_109 : decode cX9_step 109 = .ok (.aload_n 0, 1) := by decide +kernel
theorem dX9_step_110 : decode cX9_step 110 = .ok (.getfield 94, 3) := by decide +kernel
theorem dX9_step_113 : decode cX9_step 113 = .ok (.dup2, 1) := by decide +kernel
theorem dX9_step_114 : decode cX9_step 114 = .ok (.iaload, 1) := by decide +kernel
theorem dX9_step_115 : decode cX9_step 115 = .ok (.iconst 1, 1) := by decide +kernel
theorem dX9_step_116 : decode cX9_step 116 = .ok (.iadd, 1) := by decide +kernel
theorem dX9_step_117 : decode cX9_step 117 = .ok (.iastore, 1) := by decide +kernel
theorem dX9_step_118 : decode cX9_step 118 = .ok (.aload_n 0, 1) := by decide +kernel
theorem dX9_step_119 : decode cX9_step 119 = .ok (.aload_n 0, 1) := by decide +kernel
theorem dX9_step_120 : decode cX9_step 120 = .ok (.getfield 36, 3) := by decide +kernel
theorem dX9_step_123 : decode cX9_step 123 = .ok (.iconst 2, 1) := by decide +kernel
theorem dX9_step_124 : decode cX9_step 124 = .ok (.iload_n 3, 1) := by decide +kernel
theorem dX9_step_125 : decode cX9_step 125 = .ok (.imul, 1) := by decide +kernel
theorem dX9_step_126 : decode cX9_step 126 = .ok (.iconst 1, 1) := by decide +kernel
theorem dX9_step_127 : decode cX9_step 127 = .ok (.iadd, 1) := by decide +kernel
theorem dX9_step_128 : decode cX9_step 128 = .ok (.iaload, 1) := by decide +kernel
theorem dX9_step_129 : decode cX9_step 129 = .ok (.putfield 94, 3) := by decide +kernel
theorem dX9_step_132 : decode cX9_step 132 = .ok (.goto 34, 3) := by decide +kernel
theorem dX9_step_135 : decode cX9_step 135 = .ok (.aload_n 0, 1) := by decide +kernel
theorem dX9_step_136 : decode cX9_step 136 = .ok (.getfield 239, 3) := by decide +kernel
theorem dX9_step_139 : decode cX9_step 139 = .ok (.aload_n 0, 1) := by decide +kernel
theorem dX9_step_140 : decode cX9_step 140 = .ok (.getfield 7, 3) := by decide +kernel
theorem dX9_step_143 : decode cX9_step 143 = .ok (.iconst 1, 1) := by decide +kernel
theorem dX9_step_144 : decode cX9_step 144 = .ok (.isub, 1) := by decide +kernel
theorem dX9_step_145 : decode cX9_step 145 = .ok (.if_icmp .ne 21, 3) := by decide +kernel
theorem dX9_step_148 : decode cX9_step 148 = .ok (.aload_n 0, 1) := by decide +kernel
theorem dX9_step_149 : decode cX9_step 149 = .ok (.getfield 42, 3) := by decide +kernel
theorem dX9_step_152 : decode cX9_step 152 = .ok (.aload_n 0, 1) := by decide +kernel
theorem dX9_step_153 : decode cX9_step 153 = .ok (.getfield 94, 3) := by decide +kernel
theorem dX9_step_156 : decode cX9_step 156 = .ok (.dup2, 1) := by decide +kernel
theorem dX9_step_157 : decode cX9_step 157 = .ok (.iaload, 1) := by decide +kernel
theorem dX9_step_158 : decode cX9_step 158 = .ok (.iconst 1, 1) := by decide +kernel
theorem dX9_step_159 : decode cX9_step 159 = .ok (.iadd, 1) := by decide +kernel
theorem dX9_step_160 : decode cX9_step 160 = .ok (.iastore, 1) := by decide +kernel
theorem dX9_step_161 : decode cX9_step 161 = .ok (.aload_n 0, 1) := by decide +kernel
theorem dX9_step_162 : decode cX9_step 162 = .ok (.iconst 1, 1) := by decide +kernel
theorem dX9_step_163 : decode cX9_step 163 = .ok (.putfield 91, 3) := by decide +kernel
theorem dX9_step_166 : decode cX9_step 166 = .ok (.aload_n 0, 1) := by decide +kernel
theorem dX9_step_167 : decode cX9_step 167 = .ok (.getfield 239, 3) := by decide +kernel
theorem dX9_step_170 : decode cX9_step 170 = .ok (.ireturn, 1) := by decide +kernel
theorem dX9_currentNow_0 : decode cX9_currentNow 0 = .ok (.aload_n 0, 1) := by decide +kernel
theorem dX9_currentNow_1 : decode cX9_currentNow 1 = .ok (.getfield 88, 3) := by decide +kernel
theorem dX9_currentNow_4 : decode cX9_currentNow 4 = .ok (.ifCond .eq 10, 3) := by decide +kernel
theorem dX9_currentNow_7 : decode cX9_currentNow 7 = .ok (.aload_n 0, 1) := by decide +kernel
theorem dX9_currentNow_8 : decode cX9_currentNow 8 = .ok (.getfield 239, 3) := by decide +kernel
theorem dX9_currentNow_11 : decode cX9_currentNow 11 = .ok (.goto 4, 3) := by decide +kernel
theorem dX9_currentNow_14 : decode cX9_currentNow 14 = .ok (.iconst (-1), 1) := by decide +kernel
theorem dX9_currentNow_15 : decode cX9_currentNow 15 = .ok (.ireturn, 1) := by decide +kernel
theorem dX9_current_0 : decode cX9_current 0 = .ok (.aload_n 0, 1) := by decide +kernel
theorem dX9_current_1 : decode cX9_current 1 = .ok (.iconst 0, 1) := by decide +kernel
theorem dX9_current_2 : decode cX9_current 2 = .ok (.putfield 81, 3) := by decide +kernel
theorem dX9_current_5 : decode cX9_current 5 = .ok (.aload_n 0, 1) := by decide +kernel
theorem dX9_current_6 : decode cX9_current 6 = .ok (.invokevirtual 245, 3) := by decide +kernel
theorem dX9_current_9 : decode cX9_current 9 = .ok (.ireturn, 1) := by decide +kernel
theorem dX9_register_0 : decode cX9_register 0 = .ok (.aload_n 0, 1) := by decide +kernel
theorem dX9_register_1 : decode cX9_register 1 = .ok (.iconst 0, 1) := by decide +kernel
theorem dX9_register_2 : decode cX9_register 2 = .ok (.putfield 81, 3) := by decide +kernel
theorem dX9_register_5 : decode cX9_register 5 = .ok (.aload_n 0, 1) := by decide +kernel
theorem dX9_register_6 : decode cX9_register 6 = .ok (.getfield 94, 3) := by decide +kernel
theorem dX9_register_9 : decode cX9_register 9 = .ok (.ireturn, 1) := by decide +kernel
theorem dX9_lackOfCounts_0 : decode cX9_lackOfCounts 0 = .ok (.aload_n 0, 1) := by decide +kernel
theorem dX9_lackOfCounts_1 : decode cX9_lackOfCounts 1 = .ok (.invokevirtual 237, 3) := by decide +kernel
theorem dX9_lackOfCounts_4 : decode cX9_lackOfCounts 4 = .ok (.ifCond .ne 7, 3) := by decide +kernel
theorem dX9_lackOfCounts_7 : decode cX9_lackOfCounts 7 = .ok (.iconst 1, 1) := by decide +kernel
theorem dX9_lackOfCounts_8 : decode cX9_lackOfCounts 8 = .ok (.goto 12, 3) := by decide +kernel
theorem dX9_lackOfCounts_11 : decode cX9_lackOfCounts 11 = .ok (.iload_n 1, 1) := by decide +kernel
theorem dX9_lackOfCounts_12 : decode cX9_lackOfCounts 12 = .ok (.ifCond .eq 7, 3) := by decide +kernel
theorem dX9_lackOfCounts_15 : decode cX9_lackOfCounts 15 = .ok (.iconst 0, 1) := by decide +kernel
theorem dX9_lackOfCounts_16 : decode cX9_lackOfCounts 16 = .ok (.goto 4, 3) := by decide +kernel
theorem dX9_lackOfCounts_19 : decode cX9_lackOfCounts 19 = .ok (.iconst 2, 1) := by decide +kernel
theorem dX9_lackOfCounts_20 : decode cX9_lackOfCounts 20 = .ok (.ireturn, 1) := by decide +kernel
theorem dX9_count_0 : decode cX9_count 0 = .ok (.aload_n 0, 1) := by decide +kernel
theorem dX9_count_1 : decode cX9_count 1 = .ok (.aload_n 0, 1) := by decide +kernel
theorem dX9_count_2 : decode cX9_count 2 = .ok (.aload_n 0, 1) := by decide +kernel
theorem dX9_count_3 : decode cX9_count 3 = .ok (.iload_n 1, 1) := by decide +kernel
theorem dX9_count_4 : decode cX9_count 4 = .ok (.invokevirtual 219, 3) := by decide +kernel
theorem dX9_count_7 : decode cX9_count 7 = .ok (.invokevirtual 248, 3) := by decide +kernel
theorem dX9_count_10 : decode cX9_count 10 = .ok (.putfield 81, 3) := by decide +kernel
theorem dX9_count_13 : decode cX9_count 13 = .ok (.aload_n 0, 1) := by decide +kernel
theorem dX9_count_14 : decode cX9_count 14 = .ok (.getfield 81, 3) := by decide +kernel
theorem dX9_count_17 : decode cX9_count 17 = .ok (.ifCond .le 7, 3) := by decide +kernel
theorem dX9_count_20 : decode cX9_count 20 = .ok (.iconst 0, 1) := by decide +kernel
theorem dX9_count_21 : decode cX9_count 21 = .ok (.goto 9, 3) := by decide +kernel
theorem dX9_count_24 : decode cX9_count 24 = .ok (.aload_n 0, 1) := by decide +kernel
theorem dX9_count_25 : decode cX9_count 25 = .ok (.getfield 42, 3) := by decide +kernel
theorem dX9_count_28 : decode cX9_count 28 = .ok (.iload_n 1, 1) := by decide +kernel
theorem dX9_count_29 : decode cX9_count 29 = .ok (.iaload, 1) := by decide +kernel
theorem dX9_count_30 : decode cX9_count 30 = .ok (.ireturn, 1) := by decide +kernel
theorem dX9_allCounts_0 : decode cX9_allCounts 0 = .ok (.iconst 0, 1) := by decide +kernel
theorem dX9_allCounts_1 : decode cX9_allCounts 1 = .ok (.istore_n 1, 1) := by decide +kernel
theorem dX9_allCounts_2 : decode cX9_allCounts 2 = .ok (.iconst 0, 1) := by decide +kernel
theorem dX9_allCounts_3 : decode cX9_allCounts 3 = .ok (.istore_n 2, 1) := by decide +kernel
theorem dX9_allCounts_4 : decode cX9_allCounts 4 = .ok (.iload_n 2, 1) := by decide +kernel
theorem dX9_allCounts_5 : decode cX9_allCounts 5 = .ok (.sipush 200, 3) := by decide +kernel
theorem dX9_allCounts_8 : decode cX9_allCounts 8 = .ok (.if_icmp .ge 18, 3) := by decide +kernel
theorem dX9_allCounts_11 : decode cX9_allCounts 11 = .ok (.iload_n 1, 1) := by decide +kernel
theorem dX9_allCounts_12 : decode cX9_allCounts 12 = .ok (.aload_n 0, 1) := by decide +kernel
theorem dX9_allCounts_13 : decode cX9_allCounts 13 = .ok (.getfield 42, 3) := by decide +kernel
theorem dX9_allCounts_16 : decode cX9_allCounts 16 = .ok (.iload_n 2, 1) := by decide +kernel
theorem dX9_allCounts_17 : decode cX9_allCounts 17 = .ok (.iaload, 1) := by decide +kernel
theorem dX9_allCounts_18 : decode cX9_allCounts 18 = .ok (.iadd, 1) := by decide +kernel
theorem dX9_allCounts_19 : decode cX9_allCounts 19 = .ok (.istore_n 1, 1) := by decide +kernel
theorem dX9_allCounts_20 : decode cX9_allCounts 20 = .ok (.iinc 2 1, 3) := by decide +kernel
theorem dX9_allCounts_23 : decode cX9_allCounts 23 = .ok (.goto (-19), 3) := by decide +kernel
theorem dX9_allCounts_26 : decode cX9_allCounts 26 = .ok (.iload_n 1, 1) := by decide +kernel
theorem dX9_allCounts_27 : decode cX9_allCounts 27 = .ok (.ireturn, 1) := by decide +kernel
theorem dX9_share_0 : decode cX9_share 0 = .ok (.aload_n 0, 1) := by decide +kernel
theorem dX9_share_1 : decode cX9_share 1 = .ok (.aload_n 0, 1) := by decide +kernel
theorem dX9_share_2 : decode cX9_share 2 = .ok (.aload_n 0, 1) := by decide +kernel
theorem dX9_share_3 : decode cX9_share 3 = .ok (.iload_n 1, 1) := by decide +kernel
theorem dX9_share_4 : decode cX9_share 4 = .ok (.invokevirtual 219, 3) := by decide +kernel
theorem dX9_share_7 : decode cX9_share 7 = .ok (.invokevirtual 248, 3) := by decide +kernel
theorem dX9_share_10 : decode cX9_share 10 = .ok (.putfield 81, 3) := by decide +kernel
theorem dX9_share_13 : decode cX9_share 13 = .ok (.aload_n 0, 1) := by decide +kernel
theorem dX9_share_14 : decode cX9_share 14 = .ok (.getfield 81, 3) := by decide +kernel
theorem dX9_share_17 : decode cX9_share 17 = .ok (.ifCond .gt 10, 3) := by decide +kernel
theorem dX9_share_20 : decode cX9_share 20 = .ok (.aload_n 0, 1) := by decide +kernel
theorem dX9_share_21 : decode cX9_share 21 = .ok (.invokevirtual 251, 3) := by decide +kernel
theorem dX9_share_24 : decode cX9_share 24 = .ok (.ifCond .ne 7, 3) := by decide +kernel
theorem dX9_share_27 : decode cX9_share 27 = .ok (.dconst 0, 1) := by decide +kernel
theorem dX9_share_28 : decode cX9_share 28 = .ok (.goto 16, 3) := by decide +kernel
theorem dX9_share_31 : decode cX9_share 31 = .ok (.aload_n 0, 1) := by decide +kernel
theorem dX9_share_32 : decode cX9_share 32 = .ok (.getfield 42, 3) := by decide +kernel
theorem dX9_share_35 : decode cX9_share 35 = .ok (.iload_n 1, 1) := by decide +kernel
theorem dX9_share_36 : decode cX9_share 36 = .ok (.iaload, 1) := by decide +kernel
theorem dX9_share_37 : decode cX9_share 37 = .ok (.i2d, 1) := by decide +kernel
theorem dX9_share_38 : decode cX9_share 38 = .ok (.aload_n 0, 1) := by decide +kernel
theorem dX9_share_39 : decode cX9_share 39 = .ok (.invokevirtual 251, 3) := by decide +kernel
theorem dX9_share_42 : decode cX9_share 42 = .ok (.i2d, 1) := by decide +kernel
theorem dX9_share_43 : decode cX9_share 43 = .ok (.ddiv, 1) := by decide +kernel
theorem dX9_share_44 : decode cX9_share 44 = .ok (.dreturn, 1) := by decide +kernel
theorem dX9_hottestNow_0 : decode cX9_hottestNow 0 = .ok (.iconst (-1), 1) := by decide +kernel
theorem dX9_hottestNow_1 : decode cX9_hottestNow 1 = .ok (.istore_n 1, 1) := by decide +kernel
theorem dX9_hottestNow_2 : decode cX9_hottestNow 2 = .ok (.iconst 0, 1) := by decide +kernel
theorem dX9_hottestNow_3 : decode cX9_hottestNow 3 = .ok (.istore_n 2, 1) := by decide +kernel
theorem dX9_hottestNow_4 : decode cX9_hottestNow 4 = .ok (.iload_n 2, 1) := by decide +kernel
theorem dX9_hottestNow_5 : decode cX9_hottestNow 5 = .ok (.sipush 200, 3) := by decide +kernel
theorem dX9_hottestNow_8 : decode cX9_hottestNow 8 = .ok (.if_icmp .ge 44, 3) := by decide +kernel
theorem dX9_hottestNow_11 : decode cX9_hottestNow 11 = .ok (.aload_n 0, 1) := by decide +kernel
theorem dX9_hottestNow_12 : decode cX9_hottestNow 12 = .ok (.getfield 42, 3) := by decide +kernel
theorem dX9_hottestNow_15 : decode cX9_hottestNow 15 = .ok (.iload_n 2, 1) := by decide +kernel
theorem dX9_hottestNow_16 : decode cX9_hottestNow 16 = .ok (.iaload, 1) := by decide +kernel
theorem dX9_hottestNow_17 : decode cX9_hottestNow 17 = .ok (.ifCond .le 27, 3) := by decide +kernel
theorem dX9_hottestNow_20 : decode cX9_hottestNow 20 = .ok (.iload_n 1, 1) := by decide +kernel
theorem dX9_hottestNow_21 : decode cX9_hottestNow 21 = .ok (.iconst (-1), 1) := by decide +kernel
theorem dX9_hottestNow_22 : decode cX9_hottestNow 22 = .ok (.if_icmp .eq 18, 3) := by decide +kernel
theorem dX9_hottestNow_25 : decode cX9_hottestNow 25 = .ok (.aload_n 0, 1) := by decide +kernel
theorem dX9_hottestNow_26 : decode cX9_hottestNow 26 = .ok (.getfield 42, 3) := by decide +kernel
theorem dX9_hottestNow_29 : decode cX9_hottestNow 29 = .ok (.iload_n 2, 1) := by decide +kernel
theorem dX9_hottestNow_30 : decode cX9_hottestNow 30 = .ok (.iaload, 1) := by decide +kernel
theorem dX9_hottestNow_31 : decode cX9_hottestNow 31 = .ok (.aload_n 0, 1) := by decide +kernel
theorem dX9_hottestNow_32 : decode cX9_hottestNow 32 = .ok (.getfield 42, 3) := by decide +kernel
theorem dX9_hottestNow_35 : decode cX9_hottestNow 35 = .ok (.iload_n 1, 1) := by decide +kernel
theorem dX9_hottestNow_36 : decode cX9_hottestNow 36 = .ok (.iaload, 1) := by decide +kernel
theorem dX9_hottestNow_37 : decode cX9_hottestNow 37 = .ok (.if_icmp .le 7, 3) := by decide +kernel
theorem dX9_hottestNow_40 : decode cX9_hottestNow 40 = .ok (.iload_n 2, 1) := by decide +kernel
theorem dX9_hottestNow_41 : decode cX9_hottestNow 41 = .ok (.goto 4, 3) := by decide +kernel
theorem dX9_hottestNow_44 : decode cX9_hottestNow 44 = .ok (.iload_n 1, 1) := by decide +kernel
theorem dX9_hottestNow_45 : decode cX9_hottestNow 45 = .ok (.istore_n 1, 1) := by decide +kernel
theorem dX9_hottestNow_46 : decode cX9_hottestNow 46 = .ok (.iinc 2 1, 3) := by decide +kernel
theorem dX9_hottestNow_49 : decode cX9_hottestNow 49 = .ok (.goto (-45), 3) := by decide +kernel
theorem dX9_hottestNow_52 : decode cX9_hottestNow 52 = .ok (.iload_n 1, 1) := by decide +kernel
theorem dX9_hottestNow_53 : decode cX9_hottestNow 53 = .ok (.ireturn, 1) := by decide +kernel
theorem dX9_hottest_0 : decode cX9_hottest 0 = .ok (.aload_n 0, 1) := by decide +kernel
theorem dX9_hottest_1 : decode cX9_hottest 1 = .ok (.iconst 0, 1) := by decide +kernel
theorem dX9_hottest_2 : decode cX9_hottest 2 = .ok (.putfield 81, 3) := by decide +kernel
theorem dX9_hottest_5 : decode cX9_hottest 5 = .ok (.aload_n 0, 1) := by decide +kernel
theorem dX9_hottest_6 : decode cX9_hottest 6 = .ok (.invokevirtual 254, 3) := by decide +kernel
theorem dX9_hottest_9 : decode cX9_hottest 9 = .ok (.ireturn, 1) := by decide +kernel
theorem dX9_frequency_0 : decode cX9_frequency 0 = .ok (.iconst 0, 1) := by decide +kernel
theorem dX9_frequency_1 : decode cX9_frequency 1 = .ok (.istore_n 2, 1) := by decide +kernel
theorem dX9_frequency_2 : decode cX9_frequency 2 = .ok (.iconst 0, 1) := by decide +kernel
theorem dX9_frequency_3 : decode cX9_frequency 3 = .ok (.istore_n 3, 1) := by decide +kernel
theorem dX9_frequency_4 : decode cX9_frequency 4 = .ok (.iload_n 3, 1) := by decide +kernel
theorem dX9_frequency_5 : decode cX9_frequency 5 = .ok (.aload_n 0, 1) := by decide +kernel
theorem dX9_frequency_6 : decode cX9_frequency 6 = .ok (.getfield 30, 3) := by decide +kernel
theorem dX9_frequency_9 : decode cX9_frequency 9 = .ok (.iconst 0, 1) := by decide +kernel
theorem dX9_frequency_10 : decode cX9_frequency 10 = .ok (.iaload, 1) := by decide +kernel
theorem dX9_frequency_11 : decode cX9_frequency 11 = .ok (.if_icmp .ge 87, 3) := by decide +kernel
theorem dX9_frequency_14 : decode cX9_frequency 14 = .ok (.aload_n 0, 1) := by decide +kernel
theorem dX9_frequency_15 : decode cX9_frequency 15 = .ok (.getfield 42, 3) := by decide +kernel
theorem dX9_frequency_18 : decode cX9_frequency 18 = .ok (.iload_n 3, 1) := by decide +kernel
theorem dX9_frequency_19 : decode cX9_frequency 19 = .ok (.iaload, 1) := by decide +kernel
theorem dX9_frequency_20 : decode cX9_frequency 20 = .ok (.ifCond .le 72, 3) := by decide +kernel
theorem dX9_frequency_23 : decode cX9_frequency 23 = .ok (.aload_n 0, 1) := by decide +kernel
theorem dX9_frequency_24 : decode cX9_frequency 24 = .ok (.iload_n 3, 1) := by decide +kernel
theorem dX9_frequency_25 : decode cX9_frequency 25 = .ok (.invokevirtual 212, 3) := by decide +kernel
theorem dX9_frequency_28 : decode cX9_frequency 28 = .ok (.iconst 0, 1) := by decide +kernel
theorem dX9_frequency_29 : decode cX9_frequency 29 = .ok (.istore 4, 2) := by decide +kernel
theorem dX9_frequency_31 : decode cX9_frequency 31 = .ok (.iconst 0, 1) := by decide +kernel
theorem dX9_frequency_32 : decode cX9_frequency 32 = .ok (.istore 5, 2) := by decide +kernel
theorem dX9_frequency_34 : decode cX9_frequency 34 = .ok (.iload 5, 2) := by decide +kernel
theorem dX9_frequency_36 : decode cX9_frequency 36 = .ok (.aload_n 0, 1) := by decide +kernel
theorem dX9_frequency_37 : decode cX9_frequency 37 = .ok (.getfield 203, 3) := by decide +kernel
theorem dX9_frequency_40 : decode cX9_frequency 40 = .ok (.if_icmp .ge 34, 3) := by decide +kernel
theorem dX9_frequency_43 : decode cX9_frequency 43 = .ok (.iload 4, 2) := by decide +kernel
theorem dX9_frequency_45 : decode cX9_frequency 45 = .ok (.ifCond .ne 16, 3) := by decide +kernel
theorem dX9_frequency_48 : decode cX9_frequency 48 = .ok (.aload_n 0, 1) := by decide +kernel
theorem dX9_frequency_49 : decode cX9_frequency 49 = .ok (.getfield 78, 3) := by decide +kernel
