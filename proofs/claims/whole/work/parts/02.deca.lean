theorem d_G_init_0 : decode b_G_init 0 = .ok (.aload_n 0, 1) := by decide +kernel
theorem d_G_init_1 : decode b_G_init 1 = .ok (.invokespecial 3, 3) := by decide +kernel
theorem d_G_init_4 : decode b_G_init 4 = .ok (.aload_n 0, 1) := by decide +kernel
theorem d_G_init_5 : decode b_G_init 5 = .ok (.bipush 60, 2) := by decide +kernel
theorem d_G_init_7 : decode b_G_init 7 = .ok (.newarray .int, 2) := by decide +kernel
theorem d_G_init_9 : decode b_G_init 9 = .ok (.putfield 9, 3) := by decide +kernel
theorem d_G_init_12 : decode b_G_init 12 = .ok (.aload_n 0, 1) := by decide +kernel
theorem d_G_init_13 : decode b_G_init 13 = .ok (.bipush 60, 2) := by decide +kernel
theorem d_G_init_15 : decode b_G_init 15 = .ok (.newarray .int, 2) := by decide +kernel
theorem d_G_init_17 : decode b_G_init 17 = .ok (.putfield 15, 3) := by decide +kernel
theorem d_G_init_20 : decode b_G_init 20 = .ok (.aload_n 0, 1) := by decide +kernel
theorem d_G_init_21 : decode b_G_init 21 = .ok (.bipush 60, 2) := by decide +kernel
theorem d_G_init_23 : decode b_G_init 23 = .ok (.newarray .int, 2) := by decide +kernel
theorem d_G_init_25 : decode b_G_init 25 = .ok (.putfield 18, 3) := by decide +kernel
theorem d_G_init_28 : decode b_G_init 28 = .ok (.return_, 1) := by decide +kernel
theorem d_G_hasPoint_0 : decode b_G_hasPoint 0 = .ok (.iload_n 1, 1) := by decide +kernel
theorem d_G_hasPoint_1 : decode b_G_hasPoint 1 = .ok (.ifCond .lt 15, 3) := by decide +kernel
theorem d_G_hasPoint_4 : decode b_G_hasPoint 4 = .ok (.iload_n 1, 1) := by decide +kernel
theorem d_G_hasPoint_5 : decode b_G_hasPoint 5 = .ok (.aload_n 0, 1) := by decide +kernel
theorem d_G_hasPoint_6 : decode b_G_hasPoint 6 = .ok (.getfield 21, 3) := by decide +kernel
theorem d_G_hasPoint_9 : decode b_G_hasPoint 9 = .ok (.if_icmp .ge 7, 3) := by decide +kernel
theorem d_G_hasPoint_12 : decode b_G_hasPoint 12 = .ok (.iconst 1, 1) := by decide +kernel
theorem d_G_hasPoint_13 : decode b_G_hasPoint 13 = .ok (.goto 4, 3) := by decide +kernel
theorem d_G_hasPoint_16 : decode b_G_hasPoint 16 = .ok (.iconst 0, 1) := by decide +kernel
theorem d_G_hasPoint_17 : decode b_G_hasPoint 17 = .ok (.ireturn, 1) := by decide +kernel
theorem d_G_hasEdge_0 : decode b_G_hasEdge 0 = .ok (.iload_n 1, 1) := by decide +kernel
theorem d_G_hasEdge_1 : decode b_G_hasEdge 1 = .ok (.ifCond .lt 15, 3) := by decide +kernel
theorem d_G_hasEdge_4 : decode b_G_hasEdge 4 = .ok (.iload_n 1, 1) := by decide +kernel
theorem d_G_hasEdge_5 : decode b_G_hasEdge 5 = .ok (.aload_n 0, 1) := by decide +kernel
theorem d_G_hasEdge_6 : decode b_G_hasEdge 6 = .ok (.getfield 25, 3) := by decide +kernel
theorem d_G_hasEdge_9 : decode b_G_hasEdge 9 = .ok (.if_icmp .ge 7, 3) := by decide +kernel
theorem d_G_hasEdge_12 : decode b_G_hasEdge 12 = .ok (.iconst 1, 1) := by decide +kernel
theorem d_G_hasEdge_13 : decode b_G_hasEdge 13 = .ok (.goto 4, 3) := by decide +kernel
theorem d_G_hasEdge_16 : decode b_G_hasEdge 16 = .ok (.iconst 0, 1) := by decide +kernel
theorem d_G_hasEdge_17 : decode b_G_hasEdge 17 = .ok (.ireturn, 1) := by decide +kernel
theorem d_G_isBoundary_0 : decode b_G_isBoundary 0 = .ok (.aload_n 0, 1) := by decide +kernel
theorem d_G_isBoundary_1 : decode b_G_isBoundary 1 = .ok (.getfield 28, 3) := by decide +kernel
theorem d_G_isBoundary_4 : decode b_G_isBoundary 4 = .ok (.iload_n 1, 1) := by decide +kernel
theorem d_G_isBoundary_5 : decode b_G_isBoundary 5 = .ok (.iushr, 1) := by decide +kernel
theorem d_G_isBoundary_6 : decode b_G_isBoundary 6 = .ok (.iconst 1, 1) := by decide +kernel
theorem d_G_isBoundary_7 : decode b_G_isBoundary 7 = .ok (.iand, 1) := by decide +kernel
theorem d_G_isBoundary_8 : decode b_G_isBoundary 8 = .ok (.ifCond .eq 7, 3) := by decide +kernel
theorem d_G_isBoundary_11 : decode b_G_isBoundary 11 = .ok (.iconst 1, 1) := by decide +kernel
theorem d_G_isBoundary_12 : decode b_G_isBoundary 12 = .ok (.goto 4, 3) := by decide +kernel
theorem d_G_isBoundary_15 : decode b_G_isBoundary 15 = .ok (.iconst 0, 1) := by decide +kernel
theorem d_G_isBoundary_16 : decode b_G_isBoundary 16 = .ok (.ireturn, 1) := by decide +kernel
theorem d_G_isFired_0 : decode b_G_isFired 0 = .ok (.aload_n 0, 1) := by decide +kernel
theorem d_G_isFired_1 : decode b_G_isFired 1 = .ok (.getfield 31, 3) := by decide +kernel
theorem d_G_isFired_4 : decode b_G_isFired 4 = .ok (.iload_n 1, 1) := by decide +kernel
theorem d_G_isFired_5 : decode b_G_isFired 5 = .ok (.iushr, 1) := by decide +kernel
theorem d_G_isFired_6 : decode b_G_isFired 6 = .ok (.iconst 1, 1) := by decide +kernel
theorem d_G_isFired_7 : decode b_G_isFired 7 = .ok (.iand, 1) := by decide +kernel
theorem d_G_isFired_8 : decode b_G_isFired 8 = .ok (.ifCond .eq 7, 3) := by decide +kernel
theorem d_G_isFired_11 : decode b_G_isFired 11 = .ok (.iconst 1, 1) := by decide +kernel
theorem d_G_isFired_12 : decode b_G_isFired 12 = .ok (.goto 4, 3) := by decide +kernel
theorem d_G_isFired_15 : decode b_G_isFired 15 = .ok (.iconst 0, 1) := by decide +kernel
theorem d_G_isFired_16 : decode b_G_isFired 16 = .ok (.ireturn, 1) := by decide +kernel
theorem d_G_canJoin_0 : decode b_G_canJoin 0 = .ok (.aload_n 0, 1) := by decide +kernel
theorem d_G_canJoin_1 : decode b_G_canJoin 1 = .ok (.iload_n 1, 1) := by decide +kernel
theorem d_G_canJoin_2 : decode b_G_canJoin 2 = .ok (.invokevirtual 34, 3) := by decide +kernel
theorem d_G_canJoin_5 : decode b_G_canJoin 5 = .ok (.ifCond .eq 36, 3) := by decide +kernel
theorem d_G_canJoin_8 : decode b_G_canJoin 8 = .ok (.aload_n 0, 1) := by decide +kernel
theorem d_G_canJoin_9 : decode b_G_canJoin 9 = .ok (.iload_n 2, 1) := by decide +kernel
theorem d_G_canJoin_10 : decode b_G_canJoin 10 = .ok (.invokevirtual 34, 3) := by decide +kernel
theorem d_G_canJoin_13 : decode b_G_canJoin 13 = .ok (.ifCond .eq 28, 3) := by decide +kernel
theorem d_G_canJoin_16 : decode b_G_canJoin 16 = .ok (.iload_n 1, 1) := by decide +kernel
theorem d_G_canJoin_17 : decode b_G_canJoin 17 = .ok (.iload_n 2, 1) := by decide +kernel
theorem d_G_canJoin_18 : decode b_G_canJoin 18 = .ok (.if_icmp .eq 23, 3) := by decide +kernel
theorem d_G_canJoin_21 : decode b_G_canJoin 21 = .ok (.aload_n 0, 1) := by decide +kernel
theorem d_G_canJoin_22 : decode b_G_canJoin 22 = .ok (.iload_n 1, 1) := by decide +kernel
theorem d_G_canJoin_23 : decode b_G_canJoin 23 = .ok (.invokevirtual 38, 3) := by decide +kernel
theorem d_G_canJoin_26 : decode b_G_canJoin 26 = .ok (.ifCond .eq 11, 3) := by decide +kernel
theorem d_G_canJoin_29 : decode b_G_canJoin 29 = .ok (.aload_n 0, 1) := by decide +kernel
theorem d_G_canJoin_30 : decode b_G_canJoin 30 = .ok (.iload_n 2, 1) := by decide +kernel
theorem d_G_canJoin_31 : decode b_G_canJoin 31 = .ok (.invokevirtual 38, 3) := by decide +kernel
theorem d_G_canJoin_34 : decode b_G_canJoin 34 = .ok (.ifCond .ne 7, 3) := by decide +kernel
theorem d_G_canJoin_37 : decode b_G_canJoin 37 = .ok (.iconst 1, 1) := by decide +kernel
theorem d_G_canJoin_38 : decode b_G_canJoin 38 = .ok (.goto 4, 3) := by decide +kernel
theorem d_G_canJoin_41 : decode b_G_canJoin 41 = .ok (.iconst 0, 1) := by decide +kernel
theorem d_G_canJoin_42 : decode b_G_canJoin 42 = .ok (.ireturn, 1) := by decide +kernel
theorem d_G_addPoint_0 : decode b_G_addPoint 0 = .ok (.aload_n 0, 1) := by decide +kernel
theorem d_G_addPoint_1 : decode b_G_addPoint 1 = .ok (.getfield 21, 3) := by decide +kernel
theorem d_G_addPoint_4 : decode b_G_addPoint 4 = .ok (.istore_n 2, 1) := by decide +kernel
theorem d_G_addPoint_5 : decode b_G_addPoint 5 = .ok (.iload_n 1, 1) := by decide +kernel
theorem d_G_addPoint_6 : decode b_G_addPoint 6 = .ok (.ifCond .eq 15, 3) := by decide +kernel
theorem d_G_addPoint_9 : decode b_G_addPoint 9 = .ok (.aload_n 0, 1) := by decide +kernel
theorem d_G_addPoint_10 : decode b_G_addPoint 10 = .ok (.dup, 1) := by decide +kernel
theorem d_G_addPoint_11 : decode b_G_addPoint 11 = .ok (.getfield 28, 3) := by decide +kernel
theorem d_G_addPoint_14 : decode b_G_addPoint 14 = .ok (.iconst 1, 1) := by decide +kernel
theorem d_G_addPoint_15 : decode b_G_addPoint 15 = .ok (.iload_n 2, 1) := by decide +kernel
theorem d_G_addPoint_16 : decode b_G_addPoint 16 = .ok (.ishl, 1) := by decide +kernel
theorem d_G_addPoint_17 : decode b_G_addPoint 17 = .ok (.ior, 1) := by decide +kernel
theorem d_G_addPoint_18 : decode b_G_addPoint 18 = .ok (.putfield 28, 3) := by decide +kernel
theorem d_G_addPoint_21 : decode b_G_addPoint 21 = .ok (.aload_n 0, 1) := by decide +kernel
theorem d_G_addPoint_22 : decode b_G_addPoint 22 = .ok (.iload_n 2, 1) := by decide +kernel
theorem d_G_addPoint_23 : decode b_G_addPoint 23 = .ok (.iconst 1, 1) := by decide +kernel
theorem d_G_addPoint_24 : decode b_G_addPoint 24 = .ok (.iadd, 1) := by decide +kernel
theorem d_G_addPoint_25 : decode b_G_addPoint 25 = .ok (.putfield 21, 3) := by decide +kernel
theorem d_G_addPoint_28 : decode b_G_addPoint 28 = .ok (.iload_n 2, 1) := by decide +kernel
theorem d_G_addPoint_29 : decode b_G_addPoint 29 = .ok (.ireturn, 1) := by decide +kernel
theorem d_G_addEdge_0 : decode b_G_addEdge 0 = .ok (.aload_n 0, 1) := by decide +kernel
theorem d_G_addEdge_1 : decode b_G_addEdge 1 = .ok (.getfield 25, 3) := by decide +kernel
theorem d_G_addEdge_4 : decode b_G_addEdge 4 = .ok (.istore 4, 2) := by decide +kernel
theorem d_G_addEdge_6 : decode b_G_addEdge 6 = .ok (.aload_n 0, 1) := by decide +kernel
theorem d_G_addEdge_7 : decode b_G_addEdge 7 = .ok (.getfield 9, 3) := by decide +kernel
theorem d_G_addEdge_10 : decode b_G_addEdge 10 = .ok (.iload 4, 2) := by decide +kernel
theorem d_G_addEdge_12 : decode b_G_addEdge 12 = .ok (.iload_n 1, 1) := by decide +kernel
theorem d_G_addEdge_13 : decode b_G_addEdge 13 = .ok (.iastore, 1) := by decide +kernel
theorem d_G_addEdge_14 : decode b_G_addEdge 14 = .ok (.aload_n 0, 1) := by decide +kernel
theorem d_G_addEdge_15 : decode b_G_addEdge 15 = .ok (.getfield 15, 3) := by decide +kernel
theorem d_G_addEdge_18 : decode b_G_addEdge 18 = .ok (.iload 4, 2) := by decide +kernel
theorem d_G_addEdge_20 : decode b_G_addEdge 20 = .ok (.iload_n 2, 1) := by decide +kernel
theorem d_G_addEdge_21 : decode b_G_addEdge 21 = .ok (.iastore, 1) := by decide +kernel
theorem d_G_addEdge_22 : decode b_G_addEdge 22 = .ok (.aload_n 0, 1) := by decide +kernel
theorem d_G_addEdge_23 : decode b_G_addEdge 23 = .ok (.getfield 18, 3) := by decide +kernel
theorem d_G_addEdge_26 : decode b_G_addEdge 26 = .ok (.iload 4, 2) := by decide +kernel
theorem d_G_addEdge_28 : decode b_G_addEdge 28 = .ok (.iload_n 3, 1) := by decide +kernel
theorem d_G_addEdge_29 : decode b_G_addEdge 29 = .ok (.iastore, 1) := by decide +kernel
theorem d_G_addEdge_30 : decode b_G_addEdge 30 = .ok (.aload_n 0, 1) := by decide +kernel
theorem d_G_addEdge_31 : decode b_G_addEdge 31 = .ok (.iload 4, 2) := by decide +kernel
theorem d_G_addEdge_33 : decode b_G_addEdge 33 = .ok (.iconst 1, 1) := by decide +kernel
theorem d_G_addEdge_34 : decode b_G_addEdge 34 = .ok (.iadd, 1) := by decide +kernel
theorem d_G_addEdge_35 : decode b_G_addEdge 35 = .ok (.putfield 25, 3) := by decide +kernel
theorem d_G_addEdge_38 : decode b_G_addEdge 38 = .ok (.iload 4, 2) := by decide +kernel
theorem d_G_addEdge_40 : decode b_G_addEdge 40 = .ok (.ireturn, 1) := by decide +kernel
theorem d_G_innerEnds_0 : decode b_G_innerEnds 0 = .ok (.iconst 1, 1) := by decide +kernel
theorem d_G_innerEnds_1 : decode b_G_innerEnds 1 = .ok (.aload_n 0, 1) := by decide +kernel
theorem d_G_innerEnds_2 : decode b_G_innerEnds 2 = .ok (.getfield 9, 3) := by decide +kernel
theorem d_G_innerEnds_5 : decode b_G_innerEnds 5 = .ok (.iload_n 1, 1) := by decide +kernel
theorem d_G_innerEnds_6 : decode b_G_innerEnds 6 = .ok (.iaload, 1) := by decide +kernel
theorem d_G_innerEnds_7 : decode b_G_innerEnds 7 = .ok (.ishl, 1) := by decide +kernel
theorem d_G_innerEnds_8 : decode b_G_innerEnds 8 = .ok (.iconst 1, 1) := by decide +kernel
theorem d_G_innerEnds_9 : decode b_G_innerEnds 9 = .ok (.aload_n 0, 1) := by decide +kernel
theorem d_G_innerEnds_10 : decode b_G_innerEnds 10 = .ok (.getfield 15, 3) := by decide +kernel
theorem d_G_innerEnds_13 : decode b_G_innerEnds 13 = .ok (.iload_n 1, 1) := by decide +kernel
theorem d_G_innerEnds_14 : decode b_G_innerEnds 14 = .ok (.iaload, 1) := by decide +kernel
theorem d_G_innerEnds_15 : decode b_G_innerEnds 15 = .ok (.ishl, 1) := by decide +kernel
theorem d_G_innerEnds_16 : decode b_G_innerEnds 16 = .ok (.ior, 1) := by decide +kernel
theorem d_G_innerEnds_17 : decode b_G_innerEnds 17 = .ok (.aload_n 0, 1) := by decide +kernel
theorem d_G_innerEnds_18 : decode b_G_innerEnds 18 = .ok (.getfield 28, 3) := by decide +kernel
theorem d_G_innerEnds_21 : decode b_G_innerEnds 21 = .ok (.iconst (-1), 1) := by decide +kernel
theorem d_G_innerEnds_22 : decode b_G_innerEnds 22 = .ok (.ixor, 1) := by decide +kernel
theorem d_G_innerEnds_23 : decode b_G_innerEnds 23 = .ok (.iand, 1) := by decide +kernel
theorem d_G_innerEnds_24 : decode b_G_innerEnds 24 = .ok (.ireturn, 1) := by decide +kernel
theorem d_G_oddEnds_0 : decode b_G_oddEnds 0 = .ok (.iconst 0, 1) := by decide +kernel
theorem d_G_oddEnds_1 : decode b_G_oddEnds 1 = .ok (.istore_n 3, 1) := by decide +kernel
theorem d_G_oddEnds_2 : decode b_G_oddEnds 2 = .ok (.iconst 0, 1) := by decide +kernel
theorem d_G_oddEnds_3 : decode b_G_oddEnds 3 = .ok (.istore 4, 2) := by decide +kernel
theorem d_G_oddEnds_5 : decode b_G_oddEnds 5 = .ok (.iload 4, 2) := by decide +kernel
theorem d_G_oddEnds_7 : decode b_G_oddEnds 7 = .ok (.aload_n 0, 1) := by decide +kernel
theorem d_G_oddEnds_8 : decode b_G_oddEnds 8 = .ok (.getfield 25, 3) := by decide +kernel
theorem d_G_oddEnds_11 : decode b_G_oddEnds 11 = .ok (.if_icmp .ge 29, 3) := by decide +kernel
theorem d_G_oddEnds_14 : decode b_G_oddEnds 14 = .ok (.lload_n 1, 1) := by decide +kernel
theorem d_G_oddEnds_15 : decode b_G_oddEnds 15 = .ok (.iload 4, 2) := by decide +kernel
theorem d_G_oddEnds_17 : decode b_G_oddEnds 17 = .ok (.lushr, 1) := by decide +kernel
theorem d_G_oddEnds_18 : decode b_G_oddEnds 18 = .ok (.lconst 1, 1) := by decide +kernel
theorem d_G_oddEnds_19 : decode b_G_oddEnds 19 = .ok (.land, 1) := by decide +kernel
theorem d_G_oddEnds_20 : decode b_G_oddEnds 20 = .ok (.lconst 0, 1) := by decide +kernel
theorem d_G_oddEnds_21 : decode b_G_oddEnds 21 = .ok (.lcmp, 1) := by decide +kernel
theorem d_G_oddEnds_22 : decode b_G_oddEnds 22 = .ok (.ifCond .eq 12, 3) := by decide +kernel
theorem d_G_oddEnds_25 : decode b_G_oddEnds 25 = .ok (.iload_n 3, 1) := by decide +kernel
theorem d_G_oddEnds_26 : decode b_G_oddEnds 26 = .ok (.aload_n 0, 1) := by decide +kernel
theorem d_G_oddEnds_27 : decode b_G_oddEnds 27 = .ok (.iload 4, 2) := by decide +kernel
theorem d_G_oddEnds_29 : decode b_G_oddEnds 29 = .ok (.invokevirtual 41, 3) := by decide +kernel
theorem d_G_oddEnds_32 : decode b_G_oddEnds 32 = .ok (.ixor, 1) := by decide +kernel
theorem d_G_oddEnds_33 : decode b_G_oddEnds 33 = .ok (.istore_n 3, 1) := by decide +kernel
theorem d_G_oddEnds_34 : decode b_G_oddEnds 34 = .ok (.iinc 4 1, 3) := by decide +kernel
theorem d_G_oddEnds_37 : decode b_G_oddEnds 37 = .ok (.goto (-32), 3) := by decide +kernel
theorem d_G_oddEnds_40 : decode b_G_oddEnds 40 = .ok (.iload_n 3, 1) := by decide +kernel
theorem d_G_oddEnds_41 : decode b_G_oddEnds 41 = .ok (.ireturn, 1) := by decide +kernel
theorem d_B_init_0 : decode b_B_init 0 = .ok (.aload_n 0, 1) := by decide +kernel
theorem d_B_init_1 : decode b_B_init 1 = .ok (.invokespecial 3, 3) := by decide +kernel
theorem d_B_init_4 : decode b_B_init 4 = .ok (.aload_n 0, 1) := by decide +kernel
theorem d_B_init_5 : decode b_B_init 5 = .ok (.bipush 60, 2) := by decide +kernel
theorem d_B_init_7 : decode b_B_init 7 = .ok (.newarray .int, 2) := by decide +kernel
theorem d_B_init_9 : decode b_B_init 9 = .ok (.putfield 9, 3) := by decide +kernel
theorem d_B_init_12 : decode b_B_init 12 = .ok (.aload_n 0, 1) := by decide +kernel
theorem d_B_init_13 : decode b_B_init 13 = .ok (.bipush 60, 2) := by decide +kernel
theorem d_B_init_15 : decode b_B_init 15 = .ok (.newarray .int, 2) := by decide +kernel
theorem d_B_init_17 : decode b_B_init 17 = .ok (.putfield 15, 3) := by decide +kernel
theorem d_B_init_20 : decode b_B_init 20 = .ok (.aload_n 0, 1) := by decide +kernel
theorem d_B_init_21 : decode b_B_init 21 = .ok (.bipush 60, 2) := by decide +kernel
theorem d_B_init_23 : decode b_B_init 23 = .ok (.newarray .int, 2) := by decide +kernel
theorem d_B_init_25 : decode b_B_init 25 = .ok (.putfield 18, 3) := by decide +kernel
theorem d_B_init_28 : decode b_B_init 28 = .ok (.aload_n 0, 1) := by decide +kernel
theorem d_B_init_29 : decode b_B_init 29 = .ok (.bipush 60, 2) := by decide +kernel
theorem d_B_init_31 : decode b_B_init 31 = .ok (.newarray .int, 2) := by decide +kernel
theorem d_B_init_33 : decode b_B_init 33 = .ok (.putfield 21, 3) := by decide +kernel
theorem d_B_init_36 : decode b_B_init 36 = .ok (.aload_n 0, 1) := by decide +kernel
theorem d_B_init_37 : decode b_B_init 37 = .ok (.bipush 30, 2) := by decide +kernel
theorem d_B_init_39 : decode b_B_init 39 = .ok (.newarray .int, 2) := by decide +kernel
theorem d_B_init_41 : decode b_B_init 41 = .ok (.putfield 24, 3) := by decide +kernel
theorem d_B_init_44 : decode b_B_init 44 = .ok (.aload_n 0, 1) := by decide +kernel
theorem d_B_init_45 : decode b_B_init 45 = .ok (.bipush 30, 2) := by decide +kernel
theorem d_B_init_47 : decode b_B_init 47 = .ok (.newarray .int, 2) := by decide +kernel
theorem d_B_init_49 : decode b_B_init 49 = .ok (.putfield 27, 3) := by decide +kernel
theorem d_B_init_52 : decode b_B_init 52 = .ok (.return_, 1) := by decide +kernel
theorem d_B_forget_0 : decode b_B_forget 0 = .ok (.aload_n 0, 1) := by decide +kernel
theorem d_B_forget_1 : decode b_B_forget 1 = .ok (.iconst 0, 1) := by decide +kernel
theorem d_B_forget_2 : decode b_B_forget 2 = .ok (.putfield 30, 3) := by decide +kernel
theorem d_B_forget_5 : decode b_B_forget 5 = .ok (.return_, 1) := by decide +kernel
theorem d_B_settle_0 : decode b_B_settle 0 = .ok (.aload_n 0, 1) := by decide +kernel
theorem d_B_settle_1 : decode b_B_settle 1 = .ok (.getfield 9, 3) := by decide +kernel
theorem d_B_settle_4 : decode b_B_settle 4 = .ok (.iconst 0, 1) := by decide +kernel
theorem d_B_settle_5 : decode b_B_settle 5 = .ok (.invokestatic 34, 3) := by decide +kernel
theorem d_B_settle_8 : decode b_B_settle 8 = .ok (.aload_n 0, 1) := by decide +kernel
theorem d_B_settle_9 : decode b_B_settle 9 = .ok (.getfield 15, 3) := by decide +kernel
theorem d_B_settle_12 : decode b_B_settle 12 = .ok (.iconst 0, 1) := by decide +kernel
theorem d_B_settle_13 : decode b_B_settle 13 = .ok (.invokestatic 34, 3) := by decide +kernel
theorem d_B_settle_16 : decode b_B_settle 16 = .ok (.aload_n 0, 1) := by decide +kernel
theorem d_B_settle_17 : decode b_B_settle 17 = .ok (.iconst 1, 1) := by decide +kernel
theorem d_B_settle_18 : decode b_B_settle 18 = .ok (.putfield 30, 3) := by decide +kernel
theorem d_B_settle_21 : decode b_B_settle 21 = .ok (.iconst 1, 1) := by decide +kernel
theorem d_B_settle_22 : decode b_B_settle 22 = .ok (.istore_n 3, 1) := by decide +kernel
theorem d_B_settle_23 : decode b_B_settle 23 = .ok (.iload_n 3, 1) := by decide +kernel
theorem d_B_settle_24 : decode b_B_settle 24 = .ok (.iload_n 2, 1) := by decide +kernel
theorem d_B_settle_25 : decode b_B_settle 25 = .ok (.if_icmp .gt 50, 3) := by decide +kernel
theorem d_B_settle_28 : decode b_B_settle 28 = .ok (.aload_n 0, 1) := by decide +kernel
theorem d_B_settle_29 : decode b_B_settle 29 = .ok (.aload_n 1, 1) := by decide +kernel
theorem d_B_settle_30 : decode b_B_settle 30 = .ok (.invokevirtual 40, 3) := by decide +kernel
theorem d_B_settle_33 : decode b_B_settle 33 = .ok (.aload_n 0, 1) := by decide +kernel
theorem d_B_settle_34 : decode b_B_settle 34 = .ok (.aload_n 1, 1) := by decide +kernel
theorem d_B_settle_35 : decode b_B_settle 35 = .ok (.invokevirtual 44, 3) := by decide +kernel
theorem d_B_settle_38 : decode b_B_settle 38 = .ok (.aload_n 0, 1) := by decide +kernel
theorem d_B_settle_39 : decode b_B_settle 39 = .ok (.aload_n 1, 1) := by decide +kernel
theorem d_B_settle_40 : decode b_B_settle 40 = .ok (.invokevirtual 47, 3) := by decide +kernel
theorem d_B_settle_43 : decode b_B_settle 43 = .ok (.aload_n 0, 1) := by decide +kernel
theorem d_B_settle_44 : decode b_B_settle 44 = .ok (.aload_n 0, 1) := by decide +kernel
theorem d_B_settle_45 : decode b_B_settle 45 = .ok (.aload_n 1, 1) := by decide +kernel
theorem d_B_settle_46 : decode b_B_settle 46 = .ok (.invokevirtual 50, 3) := by decide +kernel
theorem d_B_settle_49 : decode b_B_settle 49 = .ok (.putfield 54, 3) := by decide +kernel
theorem d_B_settle_52 : decode b_B_settle 52 = .ok (.aload_n 1, 1) := by decide +kernel
theorem d_B_settle_53 : decode b_B_settle 53 = .ok (.aload_n 0, 1) := by decide +kernel
theorem d_B_settle_54 : decode b_B_settle 54 = .ok (.getfield 54, 3) := by decide +kernel
theorem d_B_settle_57 : decode b_B_settle 57 = .ok (.invokevirtual 58, 3) := by decide +kernel
theorem d_B_settle_60 : decode b_B_settle 60 = .ok (.aload_n 1, 1) := by decide +kernel
theorem d_B_settle_61 : decode b_B_settle 61 = .ok (.getfield 64, 3) := by decide +kernel
theorem d_B_settle_64 : decode b_B_settle 64 = .ok (.if_icmp .ne 5, 3) := by decide +kernel
theorem d_B_settle_67 : decode b_B_settle 67 = .ok (.iload_n 3, 1) := by decide +kernel
theorem d_B_settle_68 : decode b_B_settle 68 = .ok (.ireturn, 1) := by decide +kernel
theorem d_B_settle_69 : decode b_B_settle 69 = .ok (.iinc 3 1, 3) := by decide +kernel
theorem d_B_settle_72 : decode b_B_settle 72 = .ok (.goto (-49), 3) := by decide +kernel
theorem d_B_settle_75 : decode b_B_settle 75 = .ok (.iconst 0, 1) := by decide +kernel
theorem d_B_settle_76 : decode b_B_settle 76 = .ok (.ireturn, 1) := by decide +kernel
theorem d_B_beliefOf_0 : decode b_B_beliefOf 0 = .ok (.aload_n 1, 1) := by decide +kernel
theorem d_B_beliefOf_1 : decode b_B_beliefOf 1 = .ok (.getfield 68, 3) := by decide +kernel
theorem d_B_beliefOf_4 : decode b_B_beliefOf 4 = .ok (.iload_n 2, 1) := by decide +kernel
theorem d_B_beliefOf_5 : decode b_B_beliefOf 5 = .ok (.iaload, 1) := by decide +kernel
theorem d_B_beliefOf_6 : decode b_B_beliefOf 6 = .ok (.aload_n 0, 1) := by decide +kernel
theorem d_B_beliefOf_7 : decode b_B_beliefOf 7 = .ok (.getfield 9, 3) := by decide +kernel
theorem d_B_beliefOf_10 : decode b_B_beliefOf 10 = .ok (.iload_n 2, 1) := by decide +kernel
theorem d_B_beliefOf_11 : decode b_B_beliefOf 11 = .ok (.iaload, 1) := by decide +kernel
theorem d_B_beliefOf_12 : decode b_B_beliefOf 12 = .ok (.iadd, 1) := by decide +kernel
theorem d_B_beliefOf_13 : decode b_B_beliefOf 13 = .ok (.aload_n 0, 1) := by decide +kernel
theorem d_B_beliefOf_14 : decode b_B_beliefOf 14 = .ok (.getfield 15, 3) := by decide +kernel
theorem d_B_beliefOf_17 : decode b_B_beliefOf 17 = .ok (.iload_n 2, 1) := by decide +kernel
theorem d_B_beliefOf_18 : decode b_B_beliefOf 18 = .ok (.iaload, 1) := by decide +kernel
theorem d_B_beliefOf_19 : decode b_B_beliefOf 19 = .ok (.iadd, 1) := by decide +kernel
theorem d_B_beliefOf_20 : decode b_B_beliefOf 20 = .ok (.ireturn, 1) := by decide +kernel
theorem d_B_sendToPoints_0 : decode b_B_sendToPoints 0 = .ok (.iconst 0, 1) := by decide +kernel
theorem d_B_sendToPoints_1 : decode b_B_sendToPoints 1 = .ok (.istore_n 2, 1) := by decide +kernel
theorem d_B_sendToPoints_2 : decode b_B_sendToPoints 2 = .ok (.iload_n 2, 1) := by decide +kernel
theorem d_B_sendToPoints_3 : decode b_B_sendToPoints 3 = .ok (.aload_n 1, 1) := by decide +kernel
theorem d_B_sendToPoints_4 : decode b_B_sendToPoints 4 = .ok (.getfield 71, 3) := by decide +kernel
theorem d_B_sendToPoints_7 : decode b_B_sendToPoints 7 = .ok (.if_icmp .ge 53, 3) := by decide +kernel
theorem d_B_sendToPoints_10 : decode b_B_sendToPoints 10 = .ok (.aload_n 0, 1) := by decide +kernel
theorem d_B_sendToPoints_11 : decode b_B_sendToPoints 11 = .ok (.getfield 18, 3) := by decide +kernel
theorem d_B_sendToPoints_14 : decode b_B_sendToPoints 14 = .ok (.iload_n 2, 1) := by decide +kernel
theorem d_B_sendToPoints_15 : decode b_B_sendToPoints 15 = .ok (.aload_n 1, 1) := by decide +kernel
theorem d_B_sendToPoints_16 : decode b_B_sendToPoints 16 = .ok (.getfield 68, 3) := by decide +kernel
theorem d_B_sendToPoints_19 : decode b_B_sendToPoints 19 = .ok (.iload_n 2, 1) := by decide +kernel
theorem d_B_sendToPoints_20 : decode b_B_sendToPoints 20 = .ok (.iaload, 1) := by decide +kernel
theorem d_B_sendToPoints_21 : decode b_B_sendToPoints 21 = .ok (.aload_n 0, 1) := by decide +kernel
theorem d_B_sendToPoints_22 : decode b_B_sendToPoints 22 = .ok (.getfield 15, 3) := by decide +kernel
theorem d_B_sendToPoints_25 : decode b_B_sendToPoints 25 = .ok (.iload_n 2, 1) := by decide +kernel
theorem d_B_sendToPoints_26 : decode b_B_sendToPoints 26 = .ok (.iaload, 1) := by decide +kernel
theorem d_B_sendToPoints_27 : decode b_B_sendToPoints 27 = .ok (.iadd, 1) := by decide +kernel
theorem d_B_sendToPoints_28 : decode b_B_sendToPoints 28 = .ok (.invokestatic 74, 3) := by decide +kernel
theorem d_B_sendToPoints_31 : decode b_B_sendToPoints 31 = .ok (.iastore, 1) := by decide +kernel
theorem d_B_sendToPoints_32 : decode b_B_sendToPoints 32 = .ok (.aload_n 0, 1) := by decide +kernel
theorem d_B_sendToPoints_33 : decode b_B_sendToPoints 33 = .ok (.getfield 21, 3) := by decide +kernel
theorem d_B_sendToPoints_36 : decode b_B_sendToPoints 36 = .ok (.iload_n 2, 1) := by decide +kernel
theorem d_B_sendToPoints_37 : decode b_B_sendToPoints 37 = .ok (.aload_n 1, 1) := by decide +kernel
theorem d_B_sendToPoints_38 : decode b_B_sendToPoints 38 = .ok (.getfield 68, 3) := by decide +kernel
theorem d_B_sendToPoints_41 : decode b_B_sendToPoints 41 = .ok (.iload_n 2, 1) := by decide +kernel
theorem d_B_sendToPoints_42 : decode b_B_sendToPoints 42 = .ok (.iaload, 1) := by decide +kernel
theorem d_B_sendToPoints_43 : decode b_B_sendToPoints 43 = .ok (.aload_n 0, 1) := by decide +kernel
theorem d_B_sendToPoints_44 : decode b_B_sendToPoints 44 = .ok (.getfield 9, 3) := by decide +kernel
theorem d_B_sendToPoints_47 : decode b_B_sendToPoints 47 = .ok (.iload_n 2, 1) := by decide +kernel
theorem d_B_sendToPoints_48 : decode b_B_sendToPoints 48 = .ok (.iaload, 1) := by decide +kernel
theorem d_B_sendToPoints_49 : decode b_B_sendToPoints 49 = .ok (.iadd, 1) := by decide +kernel
theorem d_B_sendToPoints_50 : decode b_B_sendToPoints 50 = .ok (.invokestatic 74, 3) := by decide +kernel
theorem d_B_sendToPoints_53 : decode b_B_sendToPoints 53 = .ok (.iastore, 1) := by decide +kernel
theorem d_B_sendToPoints_54 : decode b_B_sendToPoints 54 = .ok (.iinc 2 1, 3) := by decide +kernel
theorem d_B_sendToPoints_57 : decode b_B_sendToPoints 57 = .ok (.goto (-55), 3) := by decide +kernel
theorem d_B_sendToPoints_60 : decode b_B_sendToPoints 60 = .ok (.return_, 1) := by decide +kernel
theorem d_B_bounded_0 : decode b_B_bounded 0 = .ok (.sipush (-1000), 3) := by decide +kernel
theorem d_B_bounded_3 : decode b_B_bounded 3 = .ok (.sipush 1000, 3) := by decide +kernel
theorem d_B_bounded_6 : decode b_B_bounded 6 = .ok (.iload_n 0, 1) := by decide +kernel
theorem d_B_bounded_7 : decode b_B_bounded 7 = .ok (.invokestatic 78, 3) := by decide +kernel
theorem d_B_bounded_10 : decode b_B_bounded 10 = .ok (.invokestatic 84, 3) := by decide +kernel
theorem d_B_bounded_13 : decode b_B_bounded 13 = .ok (.ireturn, 1) := by decide +kernel
theorem d_B_gather_0 : decode b_B_gather 0 = .ok (.aload_n 0, 1) := by decide +kernel
theorem d_B_gather_1 : decode b_B_gather 1 = .ok (.getfield 24, 3) := by decide +kernel
theorem d_B_gather_4 : decode b_B_gather 4 = .ok (.sipush 1000, 3) := by decide +kernel
theorem d_B_gather_7 : decode b_B_gather 7 = .ok (.invokestatic 34, 3) := by decide +kernel
theorem d_B_gather_10 : decode b_B_gather 10 = .ok (.aload_n 0, 1) := by decide +kernel
theorem d_B_gather_11 : decode b_B_gather 11 = .ok (.getfield 27, 3) := by decide +kernel
theorem d_B_gather_14 : decode b_B_gather 14 = .ok (.sipush 1000, 3) := by decide +kernel
theorem d_B_gather_17 : decode b_B_gather 17 = .ok (.invokestatic 34, 3) := by decide +kernel
theorem d_B_gather_20 : decode b_B_gather 20 = .ok (.aload_n 0, 1) := by decide +kernel
theorem d_B_gather_21 : decode b_B_gather 21 = .ok (.aload_n 1, 1) := by decide +kernel
theorem d_B_gather_22 : decode b_B_gather 22 = .ok (.getfield 64, 3) := by decide +kernel
theorem d_B_gather_25 : decode b_B_gather 25 = .ok (.putfield 87, 3) := by decide +kernel
theorem d_B_gather_28 : decode b_B_gather 28 = .ok (.iconst 0, 1) := by decide +kernel
theorem d_B_gather_29 : decode b_B_gather 29 = .ok (.istore_n 2, 1) := by decide +kernel
theorem d_B_gather_30 : decode b_B_gather 30 = .ok (.iload_n 2, 1) := by decide +kernel
theorem d_B_gather_31 : decode b_B_gather 31 = .ok (.aload_n 1, 1) := by decide +kernel
theorem d_B_gather_32 : decode b_B_gather 32 = .ok (.getfield 71, 3) := by decide +kernel
theorem d_B_gather_35 : decode b_B_gather 35 = .ok (.if_icmp .ge 41, 3) := by decide +kernel
theorem d_B_gather_38 : decode b_B_gather 38 = .ok (.aload_n 0, 1) := by decide +kernel
theorem d_B_gather_39 : decode b_B_gather 39 = .ok (.aload_n 1, 1) := by decide +kernel
theorem d_B_gather_40 : decode b_B_gather 40 = .ok (.getfield 90, 3) := by decide +kernel
theorem d_B_gather_43 : decode b_B_gather 43 = .ok (.iload_n 2, 1) := by decide +kernel
theorem d_B_gather_44 : decode b_B_gather 44 = .ok (.iaload, 1) := by decide +kernel
theorem d_B_gather_45 : decode b_B_gather 45 = .ok (.aload_n 0, 1) := by decide +kernel
theorem d_B_gather_46 : decode b_B_gather 46 = .ok (.getfield 18, 3) := by decide +kernel
theorem d_B_gather_49 : decode b_B_gather 49 = .ok (.iload_n 2, 1) := by decide +kernel
theorem d_B_gather_50 : decode b_B_gather 50 = .ok (.iaload, 1) := by decide +kernel
theorem d_B_gather_51 : decode b_B_gather 51 = .ok (.invokevirtual 93, 3) := by decide +kernel
theorem d_B_gather_54 : decode b_B_gather 54 = .ok (.aload_n 0, 1) := by decide +kernel
theorem d_B_gather_55 : decode b_B_gather 55 = .ok (.aload_n 1, 1) := by decide +kernel
theorem d_B_gather_56 : decode b_B_gather 56 = .ok (.getfield 97, 3) := by decide +kernel
theorem d_B_gather_59 : decode b_B_gather 59 = .ok (.iload_n 2, 1) := by decide +kernel
theorem d_B_gather_60 : decode b_B_gather 60 = .ok (.iaload, 1) := by decide +kernel
theorem d_B_gather_61 : decode b_B_gather 61 = .ok (.aload_n 0, 1) := by decide +kernel
theorem d_B_gather_62 : decode b_B_gather 62 = .ok (.getfield 21, 3) := by decide +kernel
theorem d_B_gather_65 : decode b_B_gather 65 = .ok (.iload_n 2, 1) := by decide +kernel
theorem d_B_gather_66 : decode b_B_gather 66 = .ok (.iaload, 1) := by decide +kernel
theorem d_B_gather_67 : decode b_B_gather 67 = .ok (.invokevirtual 93, 3) := by decide +kernel
theorem d_B_gather_70 : decode b_B_gather 70 = .ok (.iinc 2 1, 3) := by decide +kernel
theorem d_B_gather_73 : decode b_B_gather 73 = .ok (.goto (-43), 3) := by decide +kernel
theorem d_B_gather_76 : decode b_B_gather 76 = .ok (.return_, 1) := by decide +kernel
theorem d_B_gatherAt_0 : decode b_B_gatherAt 0 = .ok (.iload_n 2, 1) := by decide +kernel
theorem d_B_gatherAt_1 : decode b_B_gatherAt 1 = .ok (.invokestatic 100, 3) := by decide +kernel
theorem d_B_gatherAt_4 : decode b_B_gatherAt 4 = .ok (.istore_n 3, 1) := by decide +kernel
theorem d_B_gatherAt_5 : decode b_B_gatherAt 5 = .ok (.iload_n 3, 1) := by decide +kernel
theorem d_B_gatherAt_6 : decode b_B_gatherAt 6 = .ok (.aload_n 0, 1) := by decide +kernel
theorem d_B_gatherAt_7 : decode b_B_gatherAt 7 = .ok (.getfield 24, 3) := by decide +kernel
theorem d_B_gatherAt_10 : decode b_B_gatherAt 10 = .ok (.iload_n 1, 1) := by decide +kernel
theorem d_B_gatherAt_11 : decode b_B_gatherAt 11 = .ok (.iaload, 1) := by decide +kernel
theorem d_B_gatherAt_12 : decode b_B_gatherAt 12 = .ok (.if_icmp .ge 25, 3) := by decide +kernel
theorem d_B_gatherAt_15 : decode b_B_gatherAt 15 = .ok (.aload_n 0, 1) := by decide +kernel
theorem d_B_gatherAt_16 : decode b_B_gatherAt 16 = .ok (.getfield 27, 3) := by decide +kernel
theorem d_B_gatherAt_19 : decode b_B_gatherAt 19 = .ok (.iload_n 1, 1) := by decide +kernel
theorem d_B_gatherAt_20 : decode b_B_gatherAt 20 = .ok (.aload_n 0, 1) := by decide +kernel
theorem d_B_gatherAt_21 : decode b_B_gatherAt 21 = .ok (.getfield 24, 3) := by decide +kernel
theorem d_B_gatherAt_24 : decode b_B_gatherAt 24 = .ok (.iload_n 1, 1) := by decide +kernel
theorem d_B_gatherAt_25 : decode b_B_gatherAt 25 = .ok (.iaload, 1) := by decide +kernel
theorem d_B_gatherAt_26 : decode b_B_gatherAt 26 = .ok (.iastore, 1) := by decide +kernel
theorem d_B_gatherAt_27 : decode b_B_gatherAt 27 = .ok (.aload_n 0, 1) := by decide +kernel
theorem d_B_gatherAt_28 : decode b_B_gatherAt 28 = .ok (.getfield 24, 3) := by decide +kernel
theorem d_B_gatherAt_31 : decode b_B_gatherAt 31 = .ok (.iload_n 1, 1) := by decide +kernel
theorem d_B_gatherAt_32 : decode b_B_gatherAt 32 = .ok (.iload_n 3, 1) := by decide +kernel
theorem d_B_gatherAt_33 : decode b_B_gatherAt 33 = .ok (.iastore, 1) := by decide +kernel
theorem d_B_gatherAt_34 : decode b_B_gatherAt 34 = .ok (.goto 20, 3) := by decide +kernel
theorem d_B_gatherAt_37 : decode b_B_gatherAt 37 = .ok (.iload_n 3, 1) := by decide +kernel
theorem d_B_gatherAt_38 : decode b_B_gatherAt 38 = .ok (.aload_n 0, 1) := by decide +kernel
theorem d_B_gatherAt_39 : decode b_B_gatherAt 39 = .ok (.getfield 27, 3) := by decide +kernel
theorem d_B_gatherAt_42 : decode b_B_gatherAt 42 = .ok (.iload_n 1, 1) := by decide +kernel
theorem d_B_gatherAt_43 : decode b_B_gatherAt 43 = .ok (.iaload, 1) := by decide +kernel
theorem d_B_gatherAt_44 : decode b_B_gatherAt 44 = .ok (.if_icmp .ge 10, 3) := by decide +kernel
theorem d_B_gatherAt_47 : decode b_B_gatherAt 47 = .ok (.aload_n 0, 1) := by decide +kernel
theorem d_B_gatherAt_48 : decode b_B_gatherAt 48 = .ok (.getfield 27, 3) := by decide +kernel
theorem d_B_gatherAt_51 : decode b_B_gatherAt 51 = .ok (.iload_n 1, 1) := by decide +kernel
theorem d_B_gatherAt_52 : decode b_B_gatherAt 52 = .ok (.iload_n 3, 1) := by decide +kernel
theorem d_B_gatherAt_53 : decode b_B_gatherAt 53 = .ok (.iastore, 1) := by decide +kernel
theorem d_B_gatherAt_54 : decode b_B_gatherAt 54 = .ok (.iload_n 2, 1) := by decide +kernel
theorem d_B_gatherAt_55 : decode b_B_gatherAt 55 = .ok (.ifCond .ge 15, 3) := by decide +kernel
theorem d_B_gatherAt_58 : decode b_B_gatherAt 58 = .ok (.aload_n 0, 1) := by decide +kernel
theorem d_B_gatherAt_59 : decode b_B_gatherAt 59 = .ok (.dup, 1) := by decide +kernel
theorem d_B_gatherAt_60 : decode b_B_gatherAt 60 = .ok (.getfield 87, 3) := by decide +kernel
theorem d_B_gatherAt_63 : decode b_B_gatherAt 63 = .ok (.iconst 1, 1) := by decide +kernel
theorem d_B_gatherAt_64 : decode b_B_gatherAt 64 = .ok (.iload_n 1, 1) := by decide +kernel
theorem d_B_gatherAt_65 : decode b_B_gatherAt 65 = .ok (.ishl, 1) := by decide +kernel
theorem d_B_gatherAt_66 : decode b_B_gatherAt 66 = .ok (.ixor, 1) := by decide +kernel
theorem d_B_gatherAt_67 : decode b_B_gatherAt 67 = .ok (.putfield 87, 3) := by decide +kernel
theorem d_B_gatherAt_70 : decode b_B_gatherAt 70 = .ok (.return_, 1) := by decide +kernel
theorem d_B_sendToEdges_0 : decode b_B_sendToEdges 0 = .ok (.iconst 0, 1) := by decide +kernel
theorem d_B_sendToEdges_1 : decode b_B_sendToEdges 1 = .ok (.istore_n 2, 1) := by decide +kernel
theorem d_B_sendToEdges_2 : decode b_B_sendToEdges 2 = .ok (.iload_n 2, 1) := by decide +kernel
theorem d_B_sendToEdges_3 : decode b_B_sendToEdges 3 = .ok (.aload_n 1, 1) := by decide +kernel
theorem d_B_sendToEdges_4 : decode b_B_sendToEdges 4 = .ok (.getfield 71, 3) := by decide +kernel
theorem d_B_sendToEdges_7 : decode b_B_sendToEdges 7 = .ok (.if_icmp .ge 55, 3) := by decide +kernel
theorem d_B_sendToEdges_10 : decode b_B_sendToEdges 10 = .ok (.aload_n 0, 1) := by decide +kernel
theorem d_B_sendToEdges_11 : decode b_B_sendToEdges 11 = .ok (.getfield 9, 3) := by decide +kernel
theorem d_B_sendToEdges_14 : decode b_B_sendToEdges 14 = .ok (.iload_n 2, 1) := by decide +kernel
theorem d_B_sendToEdges_15 : decode b_B_sendToEdges 15 = .ok (.aload_n 0, 1) := by decide +kernel
theorem d_B_sendToEdges_16 : decode b_B_sendToEdges 16 = .ok (.aload_n 1, 1) := by decide +kernel
theorem d_B_sendToEdges_17 : decode b_B_sendToEdges 17 = .ok (.aload_n 1, 1) := by decide +kernel
theorem d_B_sendToEdges_18 : decode b_B_sendToEdges 18 = .ok (.getfield 90, 3) := by decide +kernel
theorem d_B_sendToEdges_21 : decode b_B_sendToEdges 21 = .ok (.iload_n 2, 1) := by decide +kernel
theorem d_B_sendToEdges_22 : decode b_B_sendToEdges 22 = .ok (.iaload, 1) := by decide +kernel
theorem d_B_sendToEdges_23 : decode b_B_sendToEdges 23 = .ok (.aload_n 0, 1) := by decide +kernel
theorem d_B_sendToEdges_24 : decode b_B_sendToEdges 24 = .ok (.getfield 18, 3) := by decide +kernel
theorem d_B_sendToEdges_27 : decode b_B_sendToEdges 27 = .ok (.iload_n 2, 1) := by decide +kernel
theorem d_B_sendToEdges_28 : decode b_B_sendToEdges 28 = .ok (.iaload, 1) := by decide +kernel
theorem d_B_sendToEdges_29 : decode b_B_sendToEdges 29 = .ok (.invokevirtual 103, 3) := by decide +kernel
theorem d_B_sendToEdges_32 : decode b_B_sendToEdges 32 = .ok (.iastore, 1) := by decide +kernel
theorem d_B_sendToEdges_33 : decode b_B_sendToEdges 33 = .ok (.aload_n 0, 1) := by decide +kernel
theorem d_B_sendToEdges_34 : decode b_B_sendToEdges 34 = .ok (.getfield 15, 3) := by decide +kernel
theorem d_B_sendToEdges_37 : decode b_B_sendToEdges 37 = .ok (.iload_n 2, 1) := by decide +kernel
theorem d_B_sendToEdges_38 : decode b_B_sendToEdges 38 = .ok (.aload_n 0, 1) := by decide +kernel
theorem d_B_sendToEdges_39 : decode b_B_sendToEdges 39 = .ok (.aload_n 1, 1) := by decide +kernel
theorem d_B_sendToEdges_40 : decode b_B_sendToEdges 40 = .ok (.aload_n 1, 1) := by decide +kernel
theorem d_B_sendToEdges_41 : decode b_B_sendToEdges 41 = .ok (.getfield 97, 3) := by decide +kernel
theorem d_B_sendToEdges_44 : decode b_B_sendToEdges 44 = .ok (.iload_n 2, 1) := by decide +kernel
theorem d_B_sendToEdges_45 : decode b_B_sendToEdges 45 = .ok (.iaload, 1) := by decide +kernel
theorem d_B_sendToEdges_46 : decode b_B_sendToEdges 46 = .ok (.aload_n 0, 1) := by decide +kernel
theorem d_B_sendToEdges_47 : decode b_B_sendToEdges 47 = .ok (.getfield 21, 3) := by decide +kernel
theorem d_B_sendToEdges_50 : decode b_B_sendToEdges 50 = .ok (.iload_n 2, 1) := by decide +kernel
theorem d_B_sendToEdges_51 : decode b_B_sendToEdges 51 = .ok (.iaload, 1) := by decide +kernel
theorem d_B_sendToEdges_52 : decode b_B_sendToEdges 52 = .ok (.invokevirtual 103, 3) := by decide +kernel
theorem d_B_sendToEdges_55 : decode b_B_sendToEdges 55 = .ok (.iastore, 1) := by decide +kernel
theorem d_B_sendToEdges_56 : decode b_B_sendToEdges 56 = .ok (.iinc 2 1, 3) := by decide +kernel
theorem d_B_sendToEdges_59 : decode b_B_sendToEdges 59 = .ok (.goto (-57), 3) := by decide +kernel
theorem d_B_sendToEdges_62 : decode b_B_sendToEdges 62 = .ok (.return_, 1) := by decide +kernel
theorem d_B_sentBack_0 : decode b_B_sentBack 0 = .ok (.aload_n 1, 1) := by decide +kernel
theorem d_B_sentBack_1 : decode b_B_sentBack 1 = .ok (.iload_n 2, 1) := by decide +kernel
theorem d_B_sentBack_2 : decode b_B_sentBack 2 = .ok (.invokevirtual 107, 3) := by decide +kernel
theorem d_B_sentBack_5 : decode b_B_sentBack 5 = .ok (.ifCond .eq 5, 3) := by decide +kernel
theorem d_B_sentBack_8 : decode b_B_sentBack 8 = .ok (.iconst 0, 1) := by decide +kernel
theorem d_B_sentBack_9 : decode b_B_sentBack 9 = .ok (.ireturn, 1) := by decide +kernel
theorem d_B_sentBack_10 : decode b_B_sentBack 10 = .ok (.iload_n 3, 1) := by decide +kernel
theorem d_B_sentBack_11 : decode b_B_sentBack 11 = .ok (.invokestatic 100, 3) := by decide +kernel
theorem d_B_sentBack_14 : decode b_B_sentBack 14 = .ok (.aload_n 0, 1) := by decide +kernel
theorem d_B_sentBack_15 : decode b_B_sentBack 15 = .ok (.getfield 24, 3) := by decide +kernel
theorem d_B_sentBack_18 : decode b_B_sentBack 18 = .ok (.iload_n 2, 1) := by decide +kernel
theorem d_B_sentBack_19 : decode b_B_sentBack 19 = .ok (.iaload, 1) := by decide +kernel
theorem d_B_sentBack_20 : decode b_B_sentBack 20 = .ok (.if_icmp .ne 12, 3) := by decide +kernel
theorem d_B_sentBack_23 : decode b_B_sentBack 23 = .ok (.aload_n 0, 1) := by decide +kernel
theorem d_B_sentBack_24 : decode b_B_sentBack 24 = .ok (.getfield 27, 3) := by decide +kernel
theorem d_B_sentBack_27 : decode b_B_sentBack 27 = .ok (.iload_n 2, 1) := by decide +kernel
theorem d_B_sentBack_28 : decode b_B_sentBack 28 = .ok (.iaload, 1) := by decide +kernel
theorem d_B_sentBack_29 : decode b_B_sentBack 29 = .ok (.goto 9, 3) := by decide +kernel
theorem d_B_sentBack_32 : decode b_B_sentBack 32 = .ok (.aload_n 0, 1) := by decide +kernel
theorem d_B_sentBack_33 : decode b_B_sentBack 33 = .ok (.getfield 24, 3) := by decide +kernel
theorem d_B_sentBack_36 : decode b_B_sentBack 36 = .ok (.iload_n 2, 1) := by decide +kernel
theorem d_B_sentBack_37 : decode b_B_sentBack 37 = .ok (.iaload, 1) := by decide +kernel
theorem d_B_sentBack_38 : decode b_B_sentBack 38 = .ok (.istore 4, 2) := by decide +kernel
theorem d_B_sentBack_40 : decode b_B_sentBack 40 = .ok (.aload_n 0, 1) := by decide +kernel
theorem d_B_sentBack_41 : decode b_B_sentBack 41 = .ok (.getfield 87, 3) := by decide +kernel
theorem d_B_sentBack_44 : decode b_B_sentBack 44 = .ok (.iload_n 2, 1) := by decide +kernel
theorem d_B_sentBack_45 : decode b_B_sentBack 45 = .ok (.iushr, 1) := by decide +kernel
theorem d_B_sentBack_46 : decode b_B_sentBack 46 = .ok (.iconst 1, 1) := by decide +kernel
theorem d_B_sentBack_47 : decode b_B_sentBack 47 = .ok (.iand, 1) := by decide +kernel
theorem d_B_sentBack_48 : decode b_B_sentBack 48 = .ok (.ifCond .eq 7, 3) := by decide +kernel
theorem d_B_sentBack_51 : decode b_B_sentBack 51 = .ok (.iconst 1, 1) := by decide +kernel
theorem d_B_sentBack_52 : decode b_B_sentBack 52 = .ok (.goto 4, 3) := by decide +kernel
theorem d_B_sentBack_55 : decode b_B_sentBack 55 = .ok (.iconst 0, 1) := by decide +kernel
theorem d_B_sentBack_56 : decode b_B_sentBack 56 = .ok (.iload_n 3, 1) := by decide +kernel
theorem d_B_sentBack_57 : decode b_B_sentBack 57 = .ok (.ifCond .ge 7, 3) := by decide +kernel
theorem d_B_sentBack_60 : decode b_B_sentBack 60 = .ok (.iconst 1, 1) := by decide +kernel
theorem d_B_sentBack_61 : decode b_B_sentBack 61 = .ok (.goto 4, 3) := by decide +kernel
theorem d_B_sentBack_64 : decode b_B_sentBack 64 = .ok (.iconst 0, 1) := by decide +kernel
theorem d_B_sentBack_65 : decode b_B_sentBack 65 = .ok (.if_icmp .eq 7, 3) := by decide +kernel
theorem d_B_sentBack_68 : decode b_B_sentBack 68 = .ok (.iconst 1, 1) := by decide +kernel
theorem d_B_sentBack_69 : decode b_B_sentBack 69 = .ok (.goto 4, 3) := by decide +kernel
theorem d_B_sentBack_72 : decode b_B_sentBack 72 = .ok (.iconst 0, 1) := by decide +kernel
theorem d_B_sentBack_73 : decode b_B_sentBack 73 = .ok (.istore 5, 2) := by decide +kernel
theorem d_B_sentBack_75 : decode b_B_sentBack 75 = .ok (.iload 5, 2) := by decide +kernel
theorem d_B_sentBack_77 : decode b_B_sentBack 77 = .ok (.ifCond .eq 9, 3) := by decide +kernel
theorem d_B_sentBack_80 : decode b_B_sentBack 80 = .ok (.iload 4, 2) := by decide +kernel
theorem d_B_sentBack_82 : decode b_B_sentBack 82 = .ok (.ineg, 1) := by decide +kernel
theorem d_B_sentBack_83 : decode b_B_sentBack 83 = .ok (.goto 5, 3) := by decide +kernel
theorem d_B_sentBack_86 : decode b_B_sentBack 86 = .ok (.iload 4, 2) := by decide +kernel
theorem d_B_sentBack_88 : decode b_B_sentBack 88 = .ok (.ireturn, 1) := by decide +kernel
theorem d_B_negativeEdges_0 : decode b_B_negativeEdges 0 = .ok (.lconst 0, 1) := by decide +kernel
theorem d_B_negativeEdges_1 : decode b_B_negativeEdges 1 = .ok (.lstore_n 2, 1) := by decide +kernel
theorem d_B_negativeEdges_2 : decode b_B_negativeEdges 2 = .ok (.iconst 0, 1) := by decide +kernel
theorem d_B_negativeEdges_3 : decode b_B_negativeEdges 3 = .ok (.istore 4, 2) := by decide +kernel
theorem d_B_negativeEdges_5 : decode b_B_negativeEdges 5 = .ok (.iload 4, 2) := by decide +kernel
theorem d_B_negativeEdges_7 : decode b_B_negativeEdges 7 = .ok (.aload_n 1, 1) := by decide +kernel
theorem d_B_negativeEdges_8 : decode b_B_negativeEdges 8 = .ok (.getfield 71, 3) := by decide +kernel
theorem d_B_negativeEdges_11 : decode b_B_negativeEdges 11 = .ok (.if_icmp .ge 26, 3) := by decide +kernel
theorem d_B_negativeEdges_14 : decode b_B_negativeEdges 14 = .ok (.aload_n 0, 1) := by decide +kernel
theorem d_B_negativeEdges_15 : decode b_B_negativeEdges 15 = .ok (.aload_n 1, 1) := by decide +kernel
theorem d_B_negativeEdges_16 : decode b_B_negativeEdges 16 = .ok (.iload 4, 2) := by decide +kernel
theorem d_B_negativeEdges_18 : decode b_B_negativeEdges 18 = .ok (.invokevirtual 111, 3) := by decide +kernel
theorem d_B_negativeEdges_21 : decode b_B_negativeEdges 21 = .ok (.ifCond .ge 10, 3) := by decide +kernel
theorem d_B_negativeEdges_24 : decode b_B_negativeEdges 24 = .ok (.lload_n 2, 1) := by decide +kernel
theorem d_B_negativeEdges_25 : decode b_B_negativeEdges 25 = .ok (.lconst 1, 1) := by decide +kernel
theorem d_B_negativeEdges_26 : decode b_B_negativeEdges 26 = .ok (.iload 4, 2) := by decide +kernel
theorem d_B_negativeEdges_28 : decode b_B_negativeEdges 28 = .ok (.lshl, 1) := by decide +kernel
theorem d_B_negativeEdges_29 : decode b_B_negativeEdges 29 = .ok (.lor, 1) := by decide +kernel
theorem d_B_negativeEdges_30 : decode b_B_negativeEdges 30 = .ok (.lstore_n 2, 1) := by decide +kernel
theorem d_B_negativeEdges_31 : decode b_B_negativeEdges 31 = .ok (.iinc 4 1, 3) := by decide +kernel
theorem d_B_negativeEdges_34 : decode b_B_negativeEdges 34 = .ok (.goto (-29), 3) := by decide +kernel
theorem d_B_negativeEdges_37 : decode b_B_negativeEdges 37 = .ok (.lload_n 2, 1) := by decide +kernel
theorem d_B_negativeEdges_38 : decode b_B_negativeEdges 38 = .ok (.lreturn, 1) := by decide +kernel
theorem d_R_init_0 : decode b_R_init 0 = .ok (.aload_n 0, 1) := by decide +kernel
theorem d_R_init_1 : decode b_R_init 1 = .ok (.invokespecial 3, 3) := by decide +kernel
theorem d_R_init_4 : decode b_R_init 4 = .ok (.aload_n 0, 1) := by decide +kernel
theorem d_R_init_5 : decode b_R_init 5 = .ok (.bipush 60, 2) := by decide +kernel
theorem d_R_init_7 : decode b_R_init 7 = .ok (.newarray .int, 2) := by decide +kernel
theorem d_R_init_9 : decode b_R_init 9 = .ok (.putfield 9, 3) := by decide +kernel
theorem d_R_init_12 : decode b_R_init 12 = .ok (.aload_n 0, 1) := by decide +kernel
theorem d_R_init_13 : decode b_R_init 13 = .ok (.bipush 60, 2) := by decide +kernel
theorem d_R_init_15 : decode b_R_init 15 = .ok (.newarray .int, 2) := by decide +kernel
theorem d_R_init_17 : decode b_R_init 17 = .ok (.putfield 15, 3) := by decide +kernel
theorem d_R_init_20 : decode b_R_init 20 = .ok (.aload_n 0, 1) := by decide +kernel
theorem d_R_init_21 : decode b_R_init 21 = .ok (.bipush 30, 2) := by decide +kernel
theorem d_R_init_23 : decode b_R_init 23 = .ok (.newarray .int, 2) := by decide +kernel
theorem d_R_init_25 : decode b_R_init 25 = .ok (.putfield 18, 3) := by decide +kernel
theorem d_R_init_28 : decode b_R_init 28 = .ok (.aload_n 0, 1) := by decide +kernel
theorem d_R_init_29 : decode b_R_init 29 = .ok (.bipush 30, 2) := by decide +kernel
theorem d_R_init_31 : decode b_R_init 31 = .ok (.newarray .long, 2) := by decide +kernel
theorem d_R_init_33 : decode b_R_init 33 = .ok (.putfield 21, 3) := by decide +kernel
theorem d_R_init_36 : decode b_R_init 36 = .ok (.return_, 1) := by decide +kernel
theorem d_R_choose_0 : decode b_R_choose 0 = .ok (.aload_n 0, 1) := by decide +kernel
theorem d_R_choose_1 : decode b_R_choose 1 = .ok (.aload_n 1, 1) := by decide +kernel
theorem d_R_choose_2 : decode b_R_choose 2 = .ok (.aload_n 2, 1) := by decide +kernel
theorem d_R_choose_3 : decode b_R_choose 3 = .ok (.invokevirtual 25, 3) := by decide +kernel
theorem d_R_choose_6 : decode b_R_choose 6 = .ok (.aload_n 0, 1) := by decide +kernel
theorem d_R_choose_7 : decode b_R_choose 7 = .ok (.getfield 18, 3) := by decide +kernel
theorem d_R_choose_10 : decode b_R_choose 10 = .ok (.iconst 0, 1) := by decide +kernel
theorem d_R_choose_11 : decode b_R_choose 11 = .ok (.invokestatic 29, 3) := by decide +kernel
theorem d_R_choose_14 : decode b_R_choose 14 = .ok (.aload_n 0, 1) := by decide +kernel
theorem d_R_choose_15 : decode b_R_choose 15 = .ok (.iconst 0, 1) := by decide +kernel
theorem d_R_choose_16 : decode b_R_choose 16 = .ok (.putfield 35, 3) := by decide +kernel
theorem d_R_choose_19 : decode b_R_choose 19 = .ok (.iconst 0, 1) := by decide +kernel
theorem d_R_choose_20 : decode b_R_choose 20 = .ok (.istore_n 3, 1) := by decide +kernel
theorem d_R_choose_21 : decode b_R_choose 21 = .ok (.iload_n 3, 1) := by decide +kernel
theorem d_R_choose_22 : decode b_R_choose 22 = .ok (.aload_n 1, 1) := by decide +kernel
theorem d_R_choose_23 : decode b_R_choose 23 = .ok (.getfield 39, 3) := by decide +kernel
theorem d_R_choose_26 : decode b_R_choose 26 = .ok (.if_icmp .ge 79, 3) := by decide +kernel
theorem d_R_choose_29 : decode b_R_choose 29 = .ok (.aload_n 0, 1) := by decide +kernel
theorem d_R_choose_30 : decode b_R_choose 30 = .ok (.getfield 9, 3) := by decide +kernel
theorem d_R_choose_33 : decode b_R_choose 33 = .ok (.iload_n 3, 1) := by decide +kernel
theorem d_R_choose_34 : decode b_R_choose 34 = .ok (.iaload, 1) := by decide +kernel
theorem d_R_choose_35 : decode b_R_choose 35 = .ok (.istore 4, 2) := by decide +kernel
theorem d_R_choose_37 : decode b_R_choose 37 = .ok (.aload_n 0, 1) := by decide +kernel
theorem d_R_choose_38 : decode b_R_choose 38 = .ok (.aload_n 1, 1) := by decide +kernel
theorem d_R_choose_39 : decode b_R_choose 39 = .ok (.iload 4, 2) := by decide +kernel
theorem d_R_choose_41 : decode b_R_choose 41 = .ok (.invokevirtual 44, 3) := by decide +kernel
theorem d_R_choose_44 : decode b_R_choose 44 = .ok (.lconst 1, 1) := by decide +kernel
theorem d_R_choose_45 : decode b_R_choose 45 = .ok (.iload 4, 2) := by decide +kernel
theorem d_R_choose_47 : decode b_R_choose 47 = .ok (.lshl, 1) := by decide +kernel
theorem d_R_choose_48 : decode b_R_choose 48 = .ok (.invokevirtual 48, 3) := by decide +kernel
theorem d_R_choose_51 : decode b_R_choose 51 = .ok (.aload_n 0, 1) := by decide +kernel
theorem d_R_choose_52 : decode b_R_choose 52 = .ok (.getfield 52, 3) := by decide +kernel
theorem d_R_choose_55 : decode b_R_choose 55 = .ok (.ifCond .eq 44, 3) := by decide +kernel
theorem d_R_choose_58 : decode b_R_choose 58 = .ok (.aload_n 0, 1) := by decide +kernel
theorem d_R_choose_59 : decode b_R_choose 59 = .ok (.getfield 52, 3) := by decide +kernel
theorem d_R_choose_62 : decode b_R_choose 62 = .ok (.invokestatic 55, 3) := by decide +kernel
theorem d_R_choose_65 : decode b_R_choose 65 = .ok (.istore 5, 2) := by decide +kernel
theorem d_R_choose_67 : decode b_R_choose 67 = .ok (.aload_n 0, 1) := by decide +kernel
theorem d_R_choose_68 : decode b_R_choose 68 = .ok (.getfield 18, 3) := by decide +kernel
theorem d_R_choose_71 : decode b_R_choose 71 = .ok (.iload 5, 2) := by decide +kernel
theorem d_R_choose_73 : decode b_R_choose 73 = .ok (.aload_n 0, 1) := by decide +kernel
theorem d_R_choose_74 : decode b_R_choose 74 = .ok (.getfield 52, 3) := by decide +kernel
theorem d_R_choose_77 : decode b_R_choose 77 = .ok (.iastore, 1) := by decide +kernel
theorem d_R_choose_78 : decode b_R_choose 78 = .ok (.aload_n 0, 1) := by decide +kernel
theorem d_R_choose_79 : decode b_R_choose 79 = .ok (.getfield 21, 3) := by decide +kernel
theorem d_R_choose_82 : decode b_R_choose 82 = .ok (.iload 5, 2) := by decide +kernel
theorem d_R_choose_84 : decode b_R_choose 84 = .ok (.aload_n 0, 1) := by decide +kernel
theorem d_R_choose_85 : decode b_R_choose 85 = .ok (.getfield 60, 3) := by decide +kernel
theorem d_R_choose_88 : decode b_R_choose 88 = .ok (.lastore, 1) := by decide +kernel
theorem d_R_choose_89 : decode b_R_choose 89 = .ok (.aload_n 0, 1) := by decide +kernel
theorem d_R_choose_90 : decode b_R_choose 90 = .ok (.dup, 1) := by decide +kernel
theorem d_R_choose_91 : decode b_R_choose 91 = .ok (.getfield 35, 3) := by decide +kernel
theorem d_R_choose_94 : decode b_R_choose 94 = .ok (.iconst 1, 1) := by decide +kernel
theorem d_R_choose_95 : decode b_R_choose 95 = .ok (.iadd, 1) := by decide +kernel
theorem d_R_choose_96 : decode b_R_choose 96 = .ok (.putfield 35, 3) := by decide +kernel
theorem d_R_choose_99 : decode b_R_choose 99 = .ok (.iinc 3 1, 3) := by decide +kernel
theorem d_R_choose_102 : decode b_R_choose 102 = .ok (.goto (-81), 3) := by decide +kernel
theorem d_R_choose_105 : decode b_R_choose 105 = .ok (.return_, 1) := by decide +kernel
theorem d_R_solve_0 : decode b_R_solve 0 = .ok (.aload_n 0, 1) := by decide +kernel
theorem d_R_solve_1 : decode b_R_solve 1 = .ok (.iload_n 1, 1) := by decide +kernel
theorem d_R_solve_2 : decode b_R_solve 2 = .ok (.lconst 0, 1) := by decide +kernel
theorem d_R_solve_3 : decode b_R_solve 3 = .ok (.invokevirtual 48, 3) := by decide +kernel
theorem d_R_solve_6 : decode b_R_solve 6 = .ok (.aload_n 0, 1) := by decide +kernel
theorem d_R_solve_7 : decode b_R_solve 7 = .ok (.getfield 52, 3) := by decide +kernel
theorem d_R_solve_10 : decode b_R_solve 10 = .ok (.ifCond .ne 10, 3) := by decide +kernel
theorem d_R_solve_13 : decode b_R_solve 13 = .ok (.aload_n 0, 1) := by decide +kernel
theorem d_R_solve_14 : decode b_R_solve 14 = .ok (.getfield 60, 3) := by decide +kernel
theorem d_R_solve_17 : decode b_R_solve 17 = .ok (.goto 6, 3) := by decide +kernel
theorem d_R_solve_20 : decode b_R_solve 20 = .ok (.ldc2_w 64, 3) := by decide +kernel
theorem d_R_solve_23 : decode b_R_solve 23 = .ok (.lreturn, 1) := by decide +kernel
theorem d_R_putInOrder_0 : decode b_R_putInOrder 0 = .ok (.iconst 0, 1) := by decide +kernel
theorem d_R_putInOrder_1 : decode b_R_putInOrder 1 = .ok (.istore_n 3, 1) := by decide +kernel
theorem d_R_putInOrder_2 : decode b_R_putInOrder 2 = .ok (.iload_n 3, 1) := by decide +kernel
theorem d_R_putInOrder_3 : decode b_R_putInOrder 3 = .ok (.aload_n 1, 1) := by decide +kernel
theorem d_R_putInOrder_4 : decode b_R_putInOrder 4 = .ok (.getfield 39, 3) := by decide +kernel
theorem d_R_putInOrder_7 : decode b_R_putInOrder 7 = .ok (.if_icmp .ge 42, 3) := by decide +kernel
theorem d_R_putInOrder_10 : decode b_R_putInOrder 10 = .ok (.aload_n 0, 1) := by decide +kernel
theorem d_R_putInOrder_11 : decode b_R_putInOrder 11 = .ok (.getfield 15, 3) := by decide +kernel
theorem d_R_putInOrder_14 : decode b_R_putInOrder 14 = .ok (.iload_n 3, 1) := by decide +kernel
theorem d_R_putInOrder_15 : decode b_R_putInOrder 15 = .ok (.aload_n 2, 1) := by decide +kernel
theorem d_R_putInOrder_16 : decode b_R_putInOrder 16 = .ok (.getfield 66, 3) := by decide +kernel
theorem d_R_putInOrder_19 : decode b_R_putInOrder 19 = .ok (.ifCond .eq 12, 3) := by decide +kernel
theorem d_R_putInOrder_22 : decode b_R_putInOrder 22 = .ok (.aload_n 2, 1) := by decide +kernel
theorem d_R_putInOrder_23 : decode b_R_putInOrder 23 = .ok (.aload_n 1, 1) := by decide +kernel
theorem d_R_putInOrder_24 : decode b_R_putInOrder 24 = .ok (.iload_n 3, 1) := by decide +kernel
theorem d_R_putInOrder_25 : decode b_R_putInOrder 25 = .ok (.invokevirtual 72, 3) := by decide +kernel
theorem d_R_putInOrder_28 : decode b_R_putInOrder 28 = .ok (.goto 9, 3) := by decide +kernel
theorem d_R_putInOrder_31 : decode b_R_putInOrder 31 = .ok (.aload_n 1, 1) := by decide +kernel
theorem d_R_putInOrder_32 : decode b_R_putInOrder 32 = .ok (.getfield 76, 3) := by decide +kernel
theorem d_R_putInOrder_35 : decode b_R_putInOrder 35 = .ok (.iload_n 3, 1) := by decide +kernel
theorem d_R_putInOrder_36 : decode b_R_putInOrder 36 = .ok (.iaload, 1) := by decide +kernel
theorem d_R_putInOrder_37 : decode b_R_putInOrder 37 = .ok (.iastore, 1) := by decide +kernel
theorem d_R_putInOrder_38 : decode b_R_putInOrder 38 = .ok (.aload_n 0, 1) := by decide +kernel
theorem d_R_putInOrder_39 : decode b_R_putInOrder 39 = .ok (.iload_n 3, 1) := by decide +kernel
theorem d_R_putInOrder_40 : decode b_R_putInOrder 40 = .ok (.invokevirtual 79, 3) := by decide +kernel
theorem d_R_putInOrder_43 : decode b_R_putInOrder 43 = .ok (.iinc 3 1, 3) := by decide +kernel
theorem d_R_putInOrder_46 : decode b_R_putInOrder 46 = .ok (.goto (-44), 3) := by decide +kernel
theorem d_R_putInOrder_49 : decode b_R_putInOrder 49 = .ok (.return_, 1) := by decide +kernel
theorem d_R_insert_0 : decode b_R_insert 0 = .ok (.iload_n 1, 1) := by decide +kernel
theorem d_R_insert_1 : decode b_R_insert 1 = .ok (.istore_n 2, 1) := by decide +kernel
theorem d_R_insert_2 : decode b_R_insert 2 = .ok (.iload_n 2, 1) := by decide +kernel
theorem d_R_insert_3 : decode b_R_insert 3 = .ok (.ifCond .le 45, 3) := by decide +kernel
theorem d_R_insert_6 : decode b_R_insert 6 = .ok (.aload_n 0, 1) := by decide +kernel
theorem d_R_insert_7 : decode b_R_insert 7 = .ok (.getfield 15, 3) := by decide +kernel
theorem d_R_insert_10 : decode b_R_insert 10 = .ok (.aload_n 0, 1) := by decide +kernel
theorem d_R_insert_11 : decode b_R_insert 11 = .ok (.getfield 9, 3) := by decide +kernel
theorem d_R_insert_14 : decode b_R_insert 14 = .ok (.iload_n 2, 1) := by decide +kernel
theorem d_R_insert_15 : decode b_R_insert 15 = .ok (.iconst 1, 1) := by decide +kernel
theorem d_R_insert_16 : decode b_R_insert 16 = .ok (.isub, 1) := by decide +kernel
theorem d_R_insert_17 : decode b_R_insert 17 = .ok (.iaload, 1) := by decide +kernel
theorem d_R_insert_18 : decode b_R_insert 18 = .ok (.iaload, 1) := by decide +kernel
theorem d_R_insert_19 : decode b_R_insert 19 = .ok (.aload_n 0, 1) := by decide +kernel
theorem d_R_insert_20 : decode b_R_insert 20 = .ok (.getfield 15, 3) := by decide +kernel
theorem d_R_insert_23 : decode b_R_insert 23 = .ok (.iload_n 1, 1) := by decide +kernel
theorem d_R_insert_24 : decode b_R_insert 24 = .ok (.iaload, 1) := by decide +kernel
theorem d_R_insert_25 : decode b_R_insert 25 = .ok (.if_icmp .le 23, 3) := by decide +kernel
theorem d_R_insert_28 : decode b_R_insert 28 = .ok (.aload_n 0, 1) := by decide +kernel
theorem d_R_insert_29 : decode b_R_insert 29 = .ok (.getfield 9, 3) := by decide +kernel
theorem d_R_insert_32 : decode b_R_insert 32 = .ok (.iload_n 2, 1) := by decide +kernel
theorem d_R_insert_33 : decode b_R_insert 33 = .ok (.aload_n 0, 1) := by decide +kernel
theorem d_R_insert_34 : decode b_R_insert 34 = .ok (.getfield 9, 3) := by decide +kernel
theorem d_R_insert_37 : decode b_R_insert 37 = .ok (.iload_n 2, 1) := by decide +kernel
theorem d_R_insert_38 : decode b_R_insert 38 = .ok (.iconst 1, 1) := by decide +kernel
theorem d_R_insert_39 : decode b_R_insert 39 = .ok (.isub, 1) := by decide +kernel
theorem d_R_insert_40 : decode b_R_insert 40 = .ok (.iaload, 1) := by decide +kernel
theorem d_R_insert_41 : decode b_R_insert 41 = .ok (.iastore, 1) := by decide +kernel
theorem d_R_insert_42 : decode b_R_insert 42 = .ok (.iinc 2 (-1), 3) := by decide +kernel
theorem d_R_insert_45 : decode b_R_insert 45 = .ok (.goto (-43), 3) := by decide +kernel
theorem d_R_insert_48 : decode b_R_insert 48 = .ok (.aload_n 0, 1) := by decide +kernel
theorem d_R_insert_49 : decode b_R_insert 49 = .ok (.getfield 9, 3) := by decide +kernel
theorem d_R_insert_52 : decode b_R_insert 52 = .ok (.iload_n 2, 1) := by decide +kernel
theorem d_R_insert_53 : decode b_R_insert 53 = .ok (.iload_n 1, 1) := by decide +kernel
theorem d_R_insert_54 : decode b_R_insert 54 = .ok (.iastore, 1) := by decide +kernel
theorem d_R_insert_55 : decode b_R_insert 55 = .ok (.return_, 1) := by decide +kernel
theorem d_R_reduce_0 : decode b_R_reduce 0 = .ok (.aload_n 0, 1) := by decide +kernel
theorem d_R_reduce_1 : decode b_R_reduce 1 = .ok (.iload_n 1, 1) := by decide +kernel
theorem d_R_reduce_2 : decode b_R_reduce 2 = .ok (.putfield 52, 3) := by decide +kernel
theorem d_R_reduce_5 : decode b_R_reduce 5 = .ok (.aload_n 0, 1) := by decide +kernel
theorem d_R_reduce_6 : decode b_R_reduce 6 = .ok (.lload_n 2, 1) := by decide +kernel
theorem d_R_reduce_7 : decode b_R_reduce 7 = .ok (.putfield 60, 3) := by decide +kernel
theorem d_R_reduce_10 : decode b_R_reduce 10 = .ok (.iconst 0, 1) := by decide +kernel
theorem d_R_reduce_11 : decode b_R_reduce 11 = .ok (.istore 4, 2) := by decide +kernel
theorem d_R_reduce_13 : decode b_R_reduce 13 = .ok (.iload 4, 2) := by decide +kernel
theorem d_R_reduce_15 : decode b_R_reduce 15 = .ok (.bipush 30, 2) := by decide +kernel
theorem d_R_reduce_17 : decode b_R_reduce 17 = .ok (.if_icmp .ge 63, 3) := by decide +kernel
theorem d_R_reduce_20 : decode b_R_reduce 20 = .ok (.aload_n 0, 1) := by decide +kernel
theorem d_R_reduce_21 : decode b_R_reduce 21 = .ok (.getfield 52, 3) := by decide +kernel
theorem d_R_reduce_24 : decode b_R_reduce 24 = .ok (.iload 4, 2) := by decide +kernel
theorem d_R_reduce_26 : decode b_R_reduce 26 = .ok (.iushr, 1) := by decide +kernel
theorem d_R_reduce_27 : decode b_R_reduce 27 = .ok (.iconst 1, 1) := by decide +kernel
theorem d_R_reduce_28 : decode b_R_reduce 28 = .ok (.iand, 1) := by decide +kernel
theorem d_R_reduce_29 : decode b_R_reduce 29 = .ok (.ifCond .eq 45, 3) := by decide +kernel
theorem d_R_reduce_32 : decode b_R_reduce 32 = .ok (.aload_n 0, 1) := by decide +kernel
theorem d_R_reduce_33 : decode b_R_reduce 33 = .ok (.getfield 18, 3) := by decide +kernel
theorem d_R_reduce_36 : decode b_R_reduce 36 = .ok (.iload 4, 2) := by decide +kernel
theorem d_R_reduce_38 : decode b_R_reduce 38 = .ok (.iaload, 1) := by decide +kernel
theorem d_R_reduce_39 : decode b_R_reduce 39 = .ok (.ifCond .eq 35, 3) := by decide +kernel
theorem d_R_reduce_42 : decode b_R_reduce 42 = .ok (.aload_n 0, 1) := by decide +kernel
theorem d_R_reduce_43 : decode b_R_reduce 43 = .ok (.dup, 1) := by decide +kernel
theorem d_R_reduce_44 : decode b_R_reduce 44 = .ok (.getfield 52, 3) := by decide +kernel
theorem d_R_reduce_47 : decode b_R_reduce 47 = .ok (.aload_n 0, 1) := by decide +kernel
theorem d_R_reduce_48 : decode b_R_reduce 48 = .ok (.getfield 18, 3) := by decide +kernel
theorem d_R_reduce_51 : decode b_R_reduce 51 = .ok (.iload 4, 2) := by decide +kernel
theorem d_R_reduce_53 : decode b_R_reduce 53 = .ok (.iaload, 1) := by decide +kernel
theorem d_R_reduce_54 : decode b_R_reduce 54 = .ok (.ixor, 1) := by decide +kernel
theorem d_R_reduce_55 : decode b_R_reduce 55 = .ok (.putfield 52, 3) := by decide +kernel
theorem d_R_reduce_58 : decode b_R_reduce 58 = .ok (.aload_n 0, 1) := by decide +kernel
theorem d_R_reduce_59 : decode b_R_reduce 59 = .ok (.dup, 1) := by decide +kernel
theorem d_R_reduce_60 : decode b_R_reduce 60 = .ok (.getfield 60, 3) := by decide +kernel
theorem d_R_reduce_63 : decode b_R_reduce 63 = .ok (.aload_n 0, 1) := by decide +kernel
theorem d_R_reduce_64 : decode b_R_reduce 64 = .ok (.getfield 21, 3) := by decide +kernel
theorem d_R_reduce_67 : decode b_R_reduce 67 = .ok (.iload 4, 2) := by decide +kernel
theorem d_R_reduce_69 : decode b_R_reduce 69 = .ok (.laload, 1) := by decide +kernel
theorem d_R_reduce_70 : decode b_R_reduce 70 = .ok (.lxor, 1) := by decide +kernel
theorem d_R_reduce_71 : decode b_R_reduce 71 = .ok (.putfield 60, 3) := by decide +kernel
theorem d_R_reduce_74 : decode b_R_reduce 74 = .ok (.iinc 4 1, 3) := by decide +kernel
theorem d_R_reduce_77 : decode b_R_reduce 77 = .ok (.goto (-64), 3) := by decide +kernel
theorem d_R_reduce_80 : decode b_R_reduce 80 = .ok (.return_, 1) := by decide +kernel
theorem d_X_init_0 : decode b_X_init 0 = .ok (.aload_n 0, 1) := by decide +kernel
theorem d_X_init_1 : decode b_X_init 1 = .ok (.invokespecial 3, 3) := by decide +kernel
theorem d_X_init_4 : decode b_X_init 4 = .ok (.aload_n 0, 1) := by decide +kernel
theorem d_X_init_5 : decode b_X_init 5 = .ok (.new 9, 3) := by decide +kernel
theorem d_X_init_8 : decode b_X_init 8 = .ok (.dup, 1) := by decide +kernel
theorem d_X_init_9 : decode b_X_init 9 = .ok (.invokespecial 11, 3) := by decide +kernel
theorem d_X_init_12 : decode b_X_init 12 = .ok (.putfield 12, 3) := by decide +kernel
theorem d_X_init_15 : decode b_X_init 15 = .ok (.aload_n 0, 1) := by decide +kernel
theorem d_X_init_16 : decode b_X_init 16 = .ok (.new 16, 3) := by decide +kernel
theorem d_X_init_19 : decode b_X_init 19 = .ok (.dup, 1) := by decide +kernel
theorem d_X_init_20 : decode b_X_init 20 = .ok (.invokespecial 18, 3) := by decide +kernel
theorem d_X_init_23 : decode b_X_init 23 = .ok (.putfield 19, 3) := by decide +kernel
theorem d_X_init_26 : decode b_X_init 26 = .ok (.aload_n 0, 1) := by decide +kernel
theorem d_X_init_27 : decode b_X_init 27 = .ok (.new 23, 3) := by decide +kernel
theorem d_X_init_30 : decode b_X_init 30 = .ok (.dup, 1) := by decide +kernel
theorem d_X_init_31 : decode b_X_init 31 = .ok (.invokespecial 25, 3) := by decide +kernel
theorem d_X_init_34 : decode b_X_init 34 = .ok (.putfield 26, 3) := by decide +kernel
theorem d_X_init_37 : decode b_X_init 37 = .ok (.aload_n 0, 1) := by decide +kernel
theorem d_X_init_38 : decode b_X_init 38 = .ok (.new 30, 3) := by decide +kernel
theorem d_X_init_41 : decode b_X_init 41 = .ok (.dup, 1) := by decide +kernel
theorem d_X_init_42 : decode b_X_init 42 = .ok (.invokespecial 32, 3) := by decide +kernel
theorem d_X_init_45 : decode b_X_init 45 = .ok (.putfield 33, 3) := by decide +kernel
theorem d_X_init_48 : decode b_X_init 48 = .ok (.return_, 1) := by decide +kernel
theorem d_X_point_0 : decode b_X_point 0 = .ok (.aload_n 0, 1) := by decide +kernel
theorem d_X_point_1 : decode b_X_point 1 = .ok (.getfield 12, 3) := by decide +kernel
theorem d_X_point_4 : decode b_X_point 4 = .ok (.getfield 37, 3) := by decide +kernel
theorem d_X_point_7 : decode b_X_point 7 = .ok (.bipush 30, 2) := by decide +kernel
theorem d_X_point_9 : decode b_X_point 9 = .ok (.if_icmp .lt 5, 3) := by decide +kernel
theorem d_X_point_12 : decode b_X_point 12 = .ok (.iconst (-1), 1) := by decide +kernel
theorem d_X_point_13 : decode b_X_point 13 = .ok (.ireturn, 1) := by decide +kernel
theorem d_X_point_14 : decode b_X_point 14 = .ok (.aload_n 0, 1) := by decide +kernel
theorem d_X_point_15 : decode b_X_point 15 = .ok (.getfield 26, 3) := by decide +kernel
theorem d_X_point_18 : decode b_X_point 18 = .ok (.invokevirtual 41, 3) := by decide +kernel
theorem d_X_point_21 : decode b_X_point 21 = .ok (.aload_n 0, 1) := by decide +kernel
theorem d_X_point_22 : decode b_X_point 22 = .ok (.getfield 12, 3) := by decide +kernel
theorem d_X_point_25 : decode b_X_point 25 = .ok (.iload_n 1, 1) := by decide +kernel
theorem d_X_point_26 : decode b_X_point 26 = .ok (.invokevirtual 44, 3) := by decide +kernel
theorem d_X_point_29 : decode b_X_point 29 = .ok (.ireturn, 1) := by decide +kernel
theorem d_X_edge_0 : decode b_X_edge 0 = .ok (.aload_n 0, 1) := by decide +kernel
theorem d_X_edge_1 : decode b_X_edge 1 = .ok (.getfield 12, 3) := by decide +kernel
theorem d_X_edge_4 : decode b_X_edge 4 = .ok (.iload_n 1, 1) := by decide +kernel
theorem d_X_edge_5 : decode b_X_edge 5 = .ok (.iload_n 2, 1) := by decide +kernel
theorem d_X_edge_6 : decode b_X_edge 6 = .ok (.invokevirtual 48, 3) := by decide +kernel
theorem d_X_edge_9 : decode b_X_edge 9 = .ok (.ifCond .eq 26, 3) := by decide +kernel
theorem d_X_edge_12 : decode b_X_edge 12 = .ok (.iload_n 3, 1) := by decide +kernel
theorem d_X_edge_13 : decode b_X_edge 13 = .ok (.iconst 1, 1) := by decide +kernel
theorem d_X_edge_14 : decode b_X_edge 14 = .ok (.if_icmp .lt 21, 3) := by decide +kernel
theorem d_X_edge_17 : decode b_X_edge 17 = .ok (.iload_n 3, 1) := by decide +kernel
theorem d_X_edge_18 : decode b_X_edge 18 = .ok (.bipush 20, 2) := by decide +kernel
theorem d_X_edge_20 : decode b_X_edge 20 = .ok (.if_icmp .gt 15, 3) := by decide +kernel
theorem d_X_edge_23 : decode b_X_edge 23 = .ok (.aload_n 0, 1) := by decide +kernel
theorem d_X_edge_24 : decode b_X_edge 24 = .ok (.getfield 12, 3) := by decide +kernel
theorem d_X_edge_27 : decode b_X_edge 27 = .ok (.getfield 52, 3) := by decide +kernel
theorem d_X_edge_30 : decode b_X_edge 30 = .ok (.bipush 60, 2) := by decide +kernel
theorem d_X_edge_32 : decode b_X_edge 32 = .ok (.if_icmp .lt 5, 3) := by decide +kernel
theorem d_X_edge_35 : decode b_X_edge 35 = .ok (.iconst (-1), 1) := by decide +kernel
theorem d_X_edge_36 : decode b_X_edge 36 = .ok (.ireturn, 1) := by decide +kernel
theorem d_X_edge_37 : decode b_X_edge 37 = .ok (.aload_n 0, 1) := by decide +kernel
theorem d_X_edge_38 : decode b_X_edge 38 = .ok (.getfield 26, 3) := by decide +kernel
theorem d_X_edge_41 : decode b_X_edge 41 = .ok (.invokevirtual 41, 3) := by decide +kernel
theorem d_X_edge_44 : decode b_X_edge 44 = .ok (.aload_n 0, 1) := by decide +kernel
theorem d_X_edge_45 : decode b_X_edge 45 = .ok (.getfield 12, 3) := by decide +kernel
theorem d_X_edge_48 : decode b_X_edge 48 = .ok (.iload_n 1, 1) := by decide +kernel
theorem d_X_edge_49 : decode b_X_edge 49 = .ok (.iload_n 2, 1) := by decide +kernel
theorem d_X_edge_50 : decode b_X_edge 50 = .ok (.iload_n 3, 1) := by decide +kernel
theorem d_X_edge_51 : decode b_X_edge 51 = .ok (.invokevirtual 55, 3) := by decide +kernel
theorem d_X_edge_54 : decode b_X_edge 54 = .ok (.ireturn, 1) := by decide +kernel
theorem d_X_fire_0 : decode b_X_fire 0 = .ok (.aload_n 0, 1) := by decide +kernel
theorem d_X_fire_1 : decode b_X_fire 1 = .ok (.getfield 12, 3) := by decide +kernel
theorem d_X_fire_4 : decode b_X_fire 4 = .ok (.iload_n 1, 1) := by decide +kernel
theorem d_X_fire_5 : decode b_X_fire 5 = .ok (.invokevirtual 59, 3) := by decide +kernel
theorem d_X_fire_8 : decode b_X_fire 8 = .ok (.ifCond .eq 26, 3) := by decide +kernel
theorem d_X_fire_11 : decode b_X_fire 11 = .ok (.aload_n 0, 1) := by decide +kernel
theorem d_X_fire_12 : decode b_X_fire 12 = .ok (.getfield 12, 3) := by decide +kernel
theorem d_X_fire_15 : decode b_X_fire 15 = .ok (.iload_n 1, 1) := by decide +kernel
theorem d_X_fire_16 : decode b_X_fire 16 = .ok (.invokevirtual 63, 3) := by decide +kernel
theorem d_X_fire_19 : decode b_X_fire 19 = .ok (.ifCond .ne 15, 3) := by decide +kernel
theorem d_X_fire_22 : decode b_X_fire 22 = .ok (.aload_n 0, 1) := by decide +kernel
theorem d_X_fire_23 : decode b_X_fire 23 = .ok (.getfield 12, 3) := by decide +kernel
theorem d_X_fire_26 : decode b_X_fire 26 = .ok (.iload_n 1, 1) := by decide +kernel
theorem d_X_fire_27 : decode b_X_fire 27 = .ok (.invokevirtual 66, 3) := by decide +kernel
theorem d_X_fire_30 : decode b_X_fire 30 = .ok (.iload_n 2, 1) := by decide +kernel
theorem d_X_fire_31 : decode b_X_fire 31 = .ok (.if_icmp .ne 5, 3) := by decide +kernel
theorem d_X_fire_34 : decode b_X_fire 34 = .ok (.iconst 0, 1) := by decide +kernel
theorem d_X_fire_35 : decode b_X_fire 35 = .ok (.ireturn, 1) := by decide +kernel
theorem d_X_fire_36 : decode b_X_fire 36 = .ok (.aload_n 0, 1) := by decide +kernel
theorem d_X_fire_37 : decode b_X_fire 37 = .ok (.getfield 26, 3) := by decide +kernel
theorem d_X_fire_40 : decode b_X_fire 40 = .ok (.invokevirtual 41, 3) := by decide +kernel
theorem d_X_fire_43 : decode b_X_fire 43 = .ok (.aload_n 0, 1) := by decide +kernel
theorem d_X_fire_44 : decode b_X_fire 44 = .ok (.getfield 12, 3) := by decide +kernel
theorem d_X_fire_47 : decode b_X_fire 47 = .ok (.dup, 1) := by decide +kernel
theorem d_X_fire_48 : decode b_X_fire 48 = .ok (.getfield 69, 3) := by decide +kernel
theorem d_X_fire_51 : decode b_X_fire 51 = .ok (.iconst 1, 1) := by decide +kernel
theorem d_X_fire_52 : decode b_X_fire 52 = .ok (.iload_n 1, 1) := by decide +kernel
theorem d_X_fire_53 : decode b_X_fire 53 = .ok (.ishl, 1) := by decide +kernel
theorem d_X_fire_54 : decode b_X_fire 54 = .ok (.ixor, 1) := by decide +kernel
theorem d_X_fire_55 : decode b_X_fire 55 = .ok (.putfield 69, 3) := by decide +kernel
theorem d_X_fire_58 : decode b_X_fire 58 = .ok (.iconst 1, 1) := by decide +kernel
theorem d_X_fire_59 : decode b_X_fire 59 = .ok (.ireturn, 1) := by decide +kernel
theorem d_X_grow_0 : decode b_X_grow 0 = .ok (.aload_n 0, 1) := by decide +kernel
theorem d_X_grow_1 : decode b_X_grow 1 = .ok (.getfield 19, 3) := by decide +kernel
theorem d_X_grow_4 : decode b_X_grow 4 = .ok (.aload_n 0, 1) := by decide +kernel
theorem d_X_grow_5 : decode b_X_grow 5 = .ok (.getfield 12, 3) := by decide +kernel
theorem d_X_grow_8 : decode b_X_grow 8 = .ok (.invokevirtual 72, 3) := by decide +kernel
theorem d_X_grow_11 : decode b_X_grow 11 = .ok (.ifCond .ne 13, 3) := by decide +kernel
theorem d_X_grow_14 : decode b_X_grow 14 = .ok (.new 76, 3) := by decide +kernel
theorem d_X_grow_17 : decode b_X_grow 17 = .ok (.dup, 1) := by decide +kernel
theorem d_X_grow_18 : decode b_X_grow 18 = .ok (.ldc 78, 2) := by decide +kernel
theorem d_X_grow_20 : decode b_X_grow 20 = .ok (.invokespecial 80, 3) := by decide +kernel
theorem d_X_grow_23 : decode b_X_grow 23 = .ok (.athrow, 1) := by decide +kernel
theorem d_X_grow_24 : decode b_X_grow 24 = .ok (.aload_n 0, 1) := by decide +kernel
theorem d_X_grow_25 : decode b_X_grow 25 = .ok (.getfield 19, 3) := by decide +kernel
theorem d_X_grow_28 : decode b_X_grow 28 = .ok (.getfield 83, 3) := by decide +kernel
theorem d_X_grow_31 : decode b_X_grow 31 = .ok (.ireturn, 1) := by decide +kernel
theorem d_X_cluster_0 : decode b_X_cluster 0 = .ok (.iload_n 1, 1) := by decide +kernel
theorem d_X_cluster_1 : decode b_X_cluster 1 = .ok (.ifCond .lt 26, 3) := by decide +kernel
theorem d_X_cluster_4 : decode b_X_cluster 4 = .ok (.iload_n 1, 1) := by decide +kernel
theorem d_X_cluster_5 : decode b_X_cluster 5 = .ok (.aload_n 0, 1) := by decide +kernel
theorem d_X_cluster_6 : decode b_X_cluster 6 = .ok (.getfield 19, 3) := by decide +kernel
theorem d_X_cluster_9 : decode b_X_cluster 9 = .ok (.getfield 86, 3) := by decide +kernel
theorem d_X_cluster_12 : decode b_X_cluster 12 = .ok (.if_icmp .ge 15, 3) := by decide +kernel
theorem d_X_cluster_15 : decode b_X_cluster 15 = .ok (.aload_n 0, 1) := by decide +kernel
theorem d_X_cluster_16 : decode b_X_cluster 16 = .ok (.getfield 19, 3) := by decide +kernel
theorem d_X_cluster_19 : decode b_X_cluster 19 = .ok (.getfield 87, 3) := by decide +kernel
theorem d_X_cluster_22 : decode b_X_cluster 22 = .ok (.iload_n 1, 1) := by decide +kernel
theorem d_X_cluster_23 : decode b_X_cluster 23 = .ok (.iaload, 1) := by decide +kernel
theorem d_X_cluster_24 : decode b_X_cluster 24 = .ok (.goto 4, 3) := by decide +kernel
theorem d_X_cluster_27 : decode b_X_cluster 27 = .ok (.iconst (-1), 1) := by decide +kernel
theorem d_X_cluster_28 : decode b_X_cluster 28 = .ok (.ireturn, 1) := by decide +kernel
theorem d_X_size_0 : decode b_X_size 0 = .ok (.iload_n 1, 1) := by decide +kernel
theorem d_X_size_1 : decode b_X_size 1 = .ok (.ifCond .lt 26, 3) := by decide +kernel
theorem d_X_size_4 : decode b_X_size 4 = .ok (.iload_n 1, 1) := by decide +kernel
theorem d_X_size_5 : decode b_X_size 5 = .ok (.aload_n 0, 1) := by decide +kernel
theorem d_X_size_6 : decode b_X_size 6 = .ok (.getfield 19, 3) := by decide +kernel
theorem d_X_size_9 : decode b_X_size 9 = .ok (.getfield 91, 3) := by decide +kernel
theorem d_X_size_12 : decode b_X_size 12 = .ok (.if_icmp .ge 15, 3) := by decide +kernel
theorem d_X_size_15 : decode b_X_size 15 = .ok (.aload_n 0, 1) := by decide +kernel
theorem d_X_size_16 : decode b_X_size 16 = .ok (.getfield 19, 3) := by decide +kernel
theorem d_X_size_19 : decode b_X_size 19 = .ok (.getfield 92, 3) := by decide +kernel
theorem d_X_size_22 : decode b_X_size 22 = .ok (.iload_n 1, 1) := by decide +kernel
theorem d_X_size_23 : decode b_X_size 23 = .ok (.iaload, 1) := by decide +kernel
theorem d_X_size_24 : decode b_X_size 24 = .ok (.goto 4, 3) := by decide +kernel
theorem d_X_size_27 : decode b_X_size 27 = .ok (.iconst (-1), 1) := by decide +kernel
theorem d_X_size_28 : decode b_X_size 28 = .ok (.ireturn, 1) := by decide +kernel
theorem d_X_grown_0 : decode b_X_grown 0 = .ok (.iload_n 1, 1) := by decide +kernel
theorem d_X_grown_1 : decode b_X_grown 1 = .ok (.lookupswitch 43 #[(0, 27), (1, 35)], 27) := by decide +kernel
theorem d_X_grown_28 : decode b_X_grown 28 = .ok (.aload_n 0, 1) := by decide +kernel
theorem d_X_grown_29 : decode b_X_grown 29 = .ok (.getfield 19, 3) := by decide +kernel
theorem d_X_grown_32 : decode b_X_grown 32 = .ok (.getfield 95, 3) := by decide +kernel
theorem d_X_grown_35 : decode b_X_grown 35 = .ok (.lreturn, 1) := by decide +kernel
theorem d_X_grown_36 : decode b_X_grown 36 = .ok (.aload_n 0, 1) := by decide +kernel
theorem d_X_grown_37 : decode b_X_grown 37 = .ok (.getfield 19, 3) := by decide +kernel
theorem d_X_grown_40 : decode b_X_grown 40 = .ok (.getfield 99, 3) := by decide +kernel
theorem d_X_grown_43 : decode b_X_grown 43 = .ok (.lreturn, 1) := by decide +kernel
theorem d_X_grown_44 : decode b_X_grown 44 = .ok (.ldc2_w 102, 3) := by decide +kernel
theorem d_X_grown_47 : decode b_X_grown 47 = .ok (.lreturn, 1) := by decide +kernel
theorem d_X_believe_0 : decode b_X_believe 0 = .ok (.iload_n 1, 1) := by decide +kernel
theorem d_X_believe_1 : decode b_X_believe 1 = .ok (.iconst 1, 1) := by decide +kernel
theorem d_X_believe_2 : decode b_X_believe 2 = .ok (.if_icmp .lt 9, 3) := by decide +kernel
theorem d_X_believe_5 : decode b_X_believe 5 = .ok (.iload_n 1, 1) := by decide +kernel
theorem d_X_believe_6 : decode b_X_believe 6 = .ok (.bipush 40, 2) := by decide +kernel
theorem d_X_believe_8 : decode b_X_believe 8 = .ok (.if_icmp .le 5, 3) := by decide +kernel
theorem d_X_believe_11 : decode b_X_believe 11 = .ok (.iconst (-1), 1) := by decide +kernel
theorem d_X_believe_12 : decode b_X_believe 12 = .ok (.ireturn, 1) := by decide +kernel
theorem d_X_believe_13 : decode b_X_believe 13 = .ok (.aload_n 0, 1) := by decide +kernel
theorem d_X_believe_14 : decode b_X_believe 14 = .ok (.getfield 26, 3) := by decide +kernel
theorem d_X_believe_17 : decode b_X_believe 17 = .ok (.aload_n 0, 1) := by decide +kernel
theorem d_X_believe_18 : decode b_X_believe 18 = .ok (.getfield 12, 3) := by decide +kernel
theorem d_X_believe_21 : decode b_X_believe 21 = .ok (.iload_n 1, 1) := by decide +kernel
theorem d_X_believe_22 : decode b_X_believe 22 = .ok (.invokevirtual 104, 3) := by decide +kernel
theorem d_X_believe_25 : decode b_X_believe 25 = .ok (.ireturn, 1) := by decide +kernel
theorem d_X_sent_0 : decode b_X_sent 0 = .ok (.aload_n 0, 1) := by decide +kernel
theorem d_X_sent_1 : decode b_X_sent 1 = .ok (.getfield 26, 3) := by decide +kernel
theorem d_X_sent_4 : decode b_X_sent 4 = .ok (.getfield 108, 3) := by decide +kernel
theorem d_X_sent_7 : decode b_X_sent 7 = .ok (.ifCond .ne 13, 3) := by decide +kernel
theorem d_X_sent_10 : decode b_X_sent 10 = .ok (.new 112, 3) := by decide +kernel
theorem d_X_sent_13 : decode b_X_sent 13 = .ok (.dup, 1) := by decide +kernel
theorem d_X_sent_14 : decode b_X_sent 14 = .ok (.ldc 114, 2) := by decide +kernel
theorem d_X_sent_16 : decode b_X_sent 16 = .ok (.invokespecial 116, 3) := by decide +kernel
theorem d_X_sent_19 : decode b_X_sent 19 = .ok (.athrow, 1) := by decide +kernel
theorem d_X_sent_20 : decode b_X_sent 20 = .ok (.aload_n 0, 1) := by decide +kernel
theorem d_X_sent_21 : decode b_X_sent 21 = .ok (.getfield 12, 3) := by decide +kernel
theorem d_X_sent_24 : decode b_X_sent 24 = .ok (.iload_n 1, 1) := by decide +kernel
theorem d_X_sent_25 : decode b_X_sent 25 = .ok (.invokevirtual 117, 3) := by decide +kernel
theorem d_X_sent_28 : decode b_X_sent 28 = .ok (.ifCond .eq 12, 3) := by decide +kernel
theorem d_X_sent_31 : decode b_X_sent 31 = .ok (.iload_n 2, 1) := by decide +kernel
theorem d_X_sent_32 : decode b_X_sent 32 = .ok (.ifCond .lt 8, 3) := by decide +kernel
theorem d_X_sent_35 : decode b_X_sent 35 = .ok (.iload_n 2, 1) := by decide +kernel
theorem d_X_sent_36 : decode b_X_sent 36 = .ok (.iconst 2, 1) := by decide +kernel
theorem d_X_sent_37 : decode b_X_sent 37 = .ok (.if_icmp .le 13, 3) := by decide +kernel
theorem d_X_sent_40 : decode b_X_sent 40 = .ok (.new 120, 3) := by decide +kernel
theorem d_X_sent_43 : decode b_X_sent 43 = .ok (.dup, 1) := by decide +kernel
theorem d_X_sent_44 : decode b_X_sent 44 = .ok (.ldc 122, 2) := by decide +kernel
theorem d_X_sent_46 : decode b_X_sent 46 = .ok (.invokespecial 124, 3) := by decide +kernel
theorem d_X_sent_49 : decode b_X_sent 49 = .ok (.athrow, 1) := by decide +kernel
theorem d_X_sent_50 : decode b_X_sent 50 = .ok (.iload_n 2, 1) := by decide +kernel
theorem d_X_sent_51 : decode b_X_sent 51 = .ok (.iconst 2, 1) := by decide +kernel
theorem d_X_sent_52 : decode b_X_sent 52 = .ok (.if_icmp .ne 16, 3) := by decide +kernel
theorem d_X_sent_55 : decode b_X_sent 55 = .ok (.aload_n 0, 1) := by decide +kernel
theorem d_X_sent_56 : decode b_X_sent 56 = .ok (.getfield 26, 3) := by decide +kernel
theorem d_X_sent_59 : decode b_X_sent 59 = .ok (.aload_n 0, 1) := by decide +kernel
theorem d_X_sent_60 : decode b_X_sent 60 = .ok (.getfield 12, 3) := by decide +kernel
theorem d_X_sent_63 : decode b_X_sent 63 = .ok (.iload_n 1, 1) := by decide +kernel
theorem d_X_sent_64 : decode b_X_sent 64 = .ok (.invokevirtual 125, 3) := by decide +kernel
theorem d_X_sent_67 : decode b_X_sent 67 = .ok (.ireturn, 1) := by decide +kernel
theorem d_X_sent_68 : decode b_X_sent 68 = .ok (.iload_n 2, 1) := by decide +kernel
theorem d_X_sent_69 : decode b_X_sent 69 = .ok (.ifCond .ne 15, 3) := by decide +kernel
theorem d_X_sent_72 : decode b_X_sent 72 = .ok (.aload_n 0, 1) := by decide +kernel
theorem d_X_sent_73 : decode b_X_sent 73 = .ok (.getfield 26, 3) := by decide +kernel
theorem d_X_sent_76 : decode b_X_sent 76 = .ok (.getfield 128, 3) := by decide +kernel
theorem d_X_sent_79 : decode b_X_sent 79 = .ok (.iload_n 1, 1) := by decide +kernel
theorem d_X_sent_80 : decode b_X_sent 80 = .ok (.iaload, 1) := by decide +kernel
theorem d_X_sent_81 : decode b_X_sent 81 = .ok (.goto 12, 3) := by decide +kernel
theorem d_X_sent_84 : decode b_X_sent 84 = .ok (.aload_n 0, 1) := by decide +kernel
theorem d_X_sent_85 : decode b_X_sent 85 = .ok (.getfield 26, 3) := by decide +kernel
theorem d_X_sent_88 : decode b_X_sent 88 = .ok (.getfield 131, 3) := by decide +kernel
theorem d_X_sent_91 : decode b_X_sent 91 = .ok (.iload_n 1, 1) := by decide +kernel
theorem d_X_sent_92 : decode b_X_sent 92 = .ok (.iaload, 1) := by decide +kernel
theorem d_X_sent_93 : decode b_X_sent 93 = .ok (.ireturn, 1) := by decide +kernel
theorem d_X_guess_0 : decode b_X_guess 0 = .ok (.aload_n 0, 1) := by decide +kernel
theorem d_X_guess_1 : decode b_X_guess 1 = .ok (.getfield 26, 3) := by decide +kernel
theorem d_X_guess_4 : decode b_X_guess 4 = .ok (.getfield 108, 3) := by decide +kernel
theorem d_X_guess_7 : decode b_X_guess 7 = .ok (.ifCond .eq 13, 3) := by decide +kernel
theorem d_X_guess_10 : decode b_X_guess 10 = .ok (.aload_n 0, 1) := by decide +kernel
theorem d_X_guess_11 : decode b_X_guess 11 = .ok (.getfield 26, 3) := by decide +kernel
theorem d_X_guess_14 : decode b_X_guess 14 = .ok (.getfield 134, 3) := by decide +kernel
theorem d_X_guess_17 : decode b_X_guess 17 = .ok (.goto 4, 3) := by decide +kernel
theorem d_X_guess_20 : decode b_X_guess 20 = .ok (.lconst 0, 1) := by decide +kernel
theorem d_X_guess_21 : decode b_X_guess 21 = .ok (.lreturn, 1) := by decide +kernel
theorem d_X_answer_0 : decode b_X_answer 0 = .ok (.aload_n 0, 1) := by decide +kernel
theorem d_X_answer_1 : decode b_X_answer 1 = .ok (.getfield 33, 3) := by decide +kernel
theorem d_X_answer_4 : decode b_X_answer 4 = .ok (.aload_n 0, 1) := by decide +kernel
theorem d_X_answer_5 : decode b_X_answer 5 = .ok (.getfield 12, 3) := by decide +kernel
theorem d_X_answer_8 : decode b_X_answer 8 = .ok (.aload_n 0, 1) := by decide +kernel
theorem d_X_answer_9 : decode b_X_answer 9 = .ok (.getfield 26, 3) := by decide +kernel
theorem d_X_answer_12 : decode b_X_answer 12 = .ok (.invokevirtual 137, 3) := by decide +kernel
theorem d_X_answer_15 : decode b_X_answer 15 = .ok (.aload_n 0, 1) := by decide +kernel
theorem d_X_answer_16 : decode b_X_answer 16 = .ok (.getfield 33, 3) := by decide +kernel
theorem d_X_answer_19 : decode b_X_answer 19 = .ok (.aload_n 0, 1) := by decide +kernel
theorem d_X_answer_20 : decode b_X_answer 20 = .ok (.getfield 12, 3) := by decide +kernel
theorem d_X_answer_23 : decode b_X_answer 23 = .ok (.getfield 69, 3) := by decide +kernel
theorem d_X_answer_26 : decode b_X_answer 26 = .ok (.invokevirtual 141, 3) := by decide +kernel
theorem d_X_answer_29 : decode b_X_answer 29 = .ok (.lreturn, 1) := by decide +kernel
theorem d_X_chosen_0 : decode b_X_chosen 0 = .ok (.aload_n 0, 1) := by decide +kernel
theorem d_X_chosen_1 : decode b_X_chosen 1 = .ok (.getfield 33, 3) := by decide +kernel
theorem d_X_chosen_4 : decode b_X_chosen 4 = .ok (.aload_n 0, 1) := by decide +kernel
theorem d_X_chosen_5 : decode b_X_chosen 5 = .ok (.getfield 12, 3) := by decide +kernel
theorem d_X_chosen_8 : decode b_X_chosen 8 = .ok (.aload_n 0, 1) := by decide +kernel
theorem d_X_chosen_9 : decode b_X_chosen 9 = .ok (.getfield 26, 3) := by decide +kernel
theorem d_X_chosen_12 : decode b_X_chosen 12 = .ok (.invokevirtual 137, 3) := by decide +kernel
theorem d_X_chosen_15 : decode b_X_chosen 15 = .ok (.aload_n 0, 1) := by decide +kernel
theorem d_X_chosen_16 : decode b_X_chosen 16 = .ok (.getfield 33, 3) := by decide +kernel
theorem d_X_chosen_19 : decode b_X_chosen 19 = .ok (.getfield 145, 3) := by decide +kernel
theorem d_X_chosen_22 : decode b_X_chosen 22 = .ok (.ireturn, 1) := by decide +kernel
theorem d_X_syndrome_0 : decode b_X_syndrome 0 = .ok (.lload_n 1, 1) := by decide +kernel
theorem d_X_syndrome_1 : decode b_X_syndrome 1 = .ok (.aload_n 0, 1) := by decide +kernel
theorem d_X_syndrome_2 : decode b_X_syndrome 2 = .ok (.getfield 12, 3) := by decide +kernel
theorem d_X_syndrome_5 : decode b_X_syndrome 5 = .ok (.getfield 52, 3) := by decide +kernel
theorem d_X_syndrome_8 : decode b_X_syndrome 8 = .ok (.lushr, 1) := by decide +kernel
theorem d_X_syndrome_9 : decode b_X_syndrome 9 = .ok (.lconst 0, 1) := by decide +kernel
theorem d_X_syndrome_10 : decode b_X_syndrome 10 = .ok (.lcmp, 1) := by decide +kernel
theorem d_X_syndrome_11 : decode b_X_syndrome 11 = .ok (.ifCond .eq 7, 3) := by decide +kernel
theorem d_X_syndrome_14 : decode b_X_syndrome 14 = .ok (.iconst (-1), 1) := by decide +kernel
theorem d_X_syndrome_15 : decode b_X_syndrome 15 = .ok (.goto 11, 3) := by decide +kernel
theorem d_X_syndrome_18 : decode b_X_syndrome 18 = .ok (.aload_n 0, 1) := by decide +kernel
theorem d_X_syndrome_19 : decode b_X_syndrome 19 = .ok (.getfield 12, 3) := by decide +kernel
theorem d_X_syndrome_22 : decode b_X_syndrome 22 = .ok (.lload_n 1, 1) := by decide +kernel
theorem d_X_syndrome_23 : decode b_X_syndrome 23 = .ok (.invokevirtual 148, 3) := by decide +kernel
theorem d_X_syndrome_26 : decode b_X_syndrome 26 = .ok (.ireturn, 1) := by decide +kernel
theorem d_X_total_0 : decode b_X_total 0 = .ok (.iload_n 1, 1) := by decide +kernel
theorem d_X_total_1 : decode b_X_total 1 = .ok (.tableswitch 75 0 4 #[35, 43, 51, 59, 67], 35) := by decide +kernel
theorem d_X_total_36 : decode b_X_total 36 = .ok (.aload_n 0, 1) := by decide +kernel
theorem d_X_total_37 : decode b_X_total 37 = .ok (.getfield 12, 3) := by decide +kernel
theorem d_X_total_40 : decode b_X_total 40 = .ok (.getfield 37, 3) := by decide +kernel
theorem d_X_total_43 : decode b_X_total 43 = .ok (.ireturn, 1) := by decide +kernel
theorem d_X_total_44 : decode b_X_total 44 = .ok (.aload_n 0, 1) := by decide +kernel
theorem d_X_total_45 : decode b_X_total 45 = .ok (.getfield 12, 3) := by decide +kernel
theorem d_X_total_48 : decode b_X_total 48 = .ok (.getfield 52, 3) := by decide +kernel
theorem d_X_total_51 : decode b_X_total 51 = .ok (.ireturn, 1) := by decide +kernel
theorem d_X_total_52 : decode b_X_total 52 = .ok (.aload_n 0, 1) := by decide +kernel
theorem d_X_total_53 : decode b_X_total 53 = .ok (.getfield 12, 3) := by decide +kernel
theorem d_X_total_56 : decode b_X_total 56 = .ok (.getfield 69, 3) := by decide +kernel
theorem d_X_total_59 : decode b_X_total 59 = .ok (.ireturn, 1) := by decide +kernel
theorem d_X_total_60 : decode b_X_total 60 = .ok (.aload_n 0, 1) := by decide +kernel
theorem d_X_total_61 : decode b_X_total 61 = .ok (.getfield 19, 3) := by decide +kernel
theorem d_X_total_64 : decode b_X_total 64 = .ok (.getfield 152, 3) := by decide +kernel
theorem d_X_total_67 : decode b_X_total 67 = .ok (.ireturn, 1) := by decide +kernel
theorem d_X_total_68 : decode b_X_total 68 = .ok (.aload_n 0, 1) := by decide +kernel
theorem d_X_total_69 : decode b_X_total 69 = .ok (.getfield 19, 3) := by decide +kernel
theorem d_X_total_72 : decode b_X_total 72 = .ok (.getfield 83, 3) := by decide +kernel
theorem d_X_total_75 : decode b_X_total 75 = .ok (.ireturn, 1) := by decide +kernel
theorem d_X_total_76 : decode b_X_total 76 = .ok (.iconst (-1), 1) := by decide +kernel
theorem d_X_total_77 : decode b_X_total 77 = .ok (.ireturn, 1) := by decide +kernel
theorem d_JA_fill_0 : decode b_JA_fill 0 = .ok (.iconst 0, 1) := by decide +kernel
theorem d_JA_fill_1 : decode b_JA_fill 1 = .ok (.istore_n 2, 1) := by decide +kernel
theorem d_JA_fill_2 : decode b_JA_fill 2 = .ok (.aload_n 0, 1) := by decide +kernel
theorem d_JA_fill_3 : decode b_JA_fill 3 = .ok (.arraylength, 1) := by decide +kernel
theorem d_JA_fill_4 : decode b_JA_fill 4 = .ok (.istore_n 3, 1) := by decide +kernel
theorem d_JA_fill_5 : decode b_JA_fill 5 = .ok (.iload_n 2, 1) := by decide +kernel
theorem d_JA_fill_6 : decode b_JA_fill 6 = .ok (.iload_n 3, 1) := by decide +kernel
theorem d_JA_fill_7 : decode b_JA_fill 7 = .ok (.if_icmp .ge 13, 3) := by decide +kernel
theorem d_JA_fill_10 : decode b_JA_fill 10 = .ok (.aload_n 0, 1) := by decide +kernel
theorem d_JA_fill_11 : decode b_JA_fill 11 = .ok (.iload_n 2, 1) := by decide +kernel
theorem d_JA_fill_12 : decode b_JA_fill 12 = .ok (.iload_n 1, 1) := by decide +kernel
theorem d_JA_fill_13 : decode b_JA_fill 13 = .ok (.iastore, 1) := by decide +kernel
theorem d_JA_fill_14 : decode b_JA_fill 14 = .ok (.iinc 2 1, 3) := by decide +kernel
theorem d_JA_fill_17 : decode b_JA_fill 17 = .ok (.goto (-12), 3) := by decide +kernel
theorem d_JA_fill_20 : decode b_JA_fill 20 = .ok (.return_, 1) := by decide +kernel
theorem d_JI_bitCount_0 : decode b_JI_bitCount 0 = .ok (.iload_n 0, 1) := by decide +kernel
theorem d_JI_bitCount_1 : decode b_JI_bitCount 1 = .ok (.iload_n 0, 1) := by decide +kernel
theorem d_JI_bitCount_2 : decode b_JI_bitCount 2 = .ok (.iconst 1, 1) := by decide +kernel
theorem d_JI_bitCount_3 : decode b_JI_bitCount 3 = .ok (.iushr, 1) := by decide +kernel
theorem d_JI_bitCount_4 : decode b_JI_bitCount 4 = .ok (.ldc_w 265, 3) := by decide +kernel
theorem d_JI_bitCount_7 : decode b_JI_bitCount 7 = .ok (.iand, 1) := by decide +kernel
theorem d_JI_bitCount_8 : decode b_JI_bitCount 8 = .ok (.isub, 1) := by decide +kernel
theorem d_JI_bitCount_9 : decode b_JI_bitCount 9 = .ok (.istore_n 0, 1) := by decide +kernel
theorem d_JI_bitCount_10 : decode b_JI_bitCount 10 = .ok (.iload_n 0, 1) := by decide +kernel
theorem d_JI_bitCount_11 : decode b_JI_bitCount 11 = .ok (.ldc_w 266, 3) := by decide +kernel
theorem d_JI_bitCount_14 : decode b_JI_bitCount 14 = .ok (.iand, 1) := by decide +kernel
theorem d_JI_bitCount_15 : decode b_JI_bitCount 15 = .ok (.iload_n 0, 1) := by decide +kernel
theorem d_JI_bitCount_16 : decode b_JI_bitCount 16 = .ok (.iconst 2, 1) := by decide +kernel
theorem d_JI_bitCount_17 : decode b_JI_bitCount 17 = .ok (.iushr, 1) := by decide +kernel
theorem d_JI_bitCount_18 : decode b_JI_bitCount 18 = .ok (.ldc_w 266, 3) := by decide +kernel
theorem d_JI_bitCount_21 : decode b_JI_bitCount 21 = .ok (.iand, 1) := by decide +kernel
theorem d_JI_bitCount_22 : decode b_JI_bitCount 22 = .ok (.iadd, 1) := by decide +kernel
theorem d_JI_bitCount_23 : decode b_JI_bitCount 23 = .ok (.istore_n 0, 1) := by decide +kernel
theorem d_JI_bitCount_24 : decode b_JI_bitCount 24 = .ok (.iload_n 0, 1) := by decide +kernel
theorem d_JI_bitCount_25 : decode b_JI_bitCount 25 = .ok (.iload_n 0, 1) := by decide +kernel
theorem d_JI_bitCount_26 : decode b_JI_bitCount 26 = .ok (.iconst 4, 1) := by decide +kernel
theorem d_JI_bitCount_27 : decode b_JI_bitCount 27 = .ok (.iushr, 1) := by decide +kernel
theorem d_JI_bitCount_28 : decode b_JI_bitCount 28 = .ok (.iadd, 1) := by decide +kernel
theorem d_JI_bitCount_29 : decode b_JI_bitCount 29 = .ok (.ldc_w 267, 3) := by decide +kernel
theorem d_JI_bitCount_32 : decode b_JI_bitCount 32 = .ok (.iand, 1) := by decide +kernel
theorem d_JI_bitCount_33 : decode b_JI_bitCount 33 = .ok (.istore_n 0, 1) := by decide +kernel
theorem d_JI_bitCount_34 : decode b_JI_bitCount 34 = .ok (.iload_n 0, 1) := by decide +kernel
theorem d_JI_bitCount_35 : decode b_JI_bitCount 35 = .ok (.iload_n 0, 1) := by decide +kernel
theorem d_JI_bitCount_36 : decode b_JI_bitCount 36 = .ok (.bipush 8, 2) := by decide +kernel
theorem d_JI_bitCount_38 : decode b_JI_bitCount 38 = .ok (.iushr, 1) := by decide +kernel
theorem d_JI_bitCount_39 : decode b_JI_bitCount 39 = .ok (.iadd, 1) := by decide +kernel
theorem d_JI_bitCount_40 : decode b_JI_bitCount 40 = .ok (.istore_n 0, 1) := by decide +kernel
theorem d_JI_bitCount_41 : decode b_JI_bitCount 41 = .ok (.iload_n 0, 1) := by decide +kernel
theorem d_JI_bitCount_42 : decode b_JI_bitCount 42 = .ok (.iload_n 0, 1) := by decide +kernel
theorem d_JI_bitCount_43 : decode b_JI_bitCount 43 = .ok (.bipush 16, 2) := by decide +kernel
theorem d_JI_bitCount_45 : decode b_JI_bitCount 45 = .ok (.iushr, 1) := by decide +kernel
theorem d_JI_bitCount_46 : decode b_JI_bitCount 46 = .ok (.iadd, 1) := by decide +kernel
theorem d_JI_bitCount_47 : decode b_JI_bitCount 47 = .ok (.istore_n 0, 1) := by decide +kernel
theorem d_JI_bitCount_48 : decode b_JI_bitCount 48 = .ok (.iload_n 0, 1) := by decide +kernel
theorem d_JI_bitCount_49 : decode b_JI_bitCount 49 = .ok (.bipush 63, 2) := by decide +kernel
theorem d_JI_bitCount_51 : decode b_JI_bitCount 51 = .ok (.iand, 1) := by decide +kernel
theorem d_JI_bitCount_52 : decode b_JI_bitCount 52 = .ok (.ireturn, 1) := by decide +kernel
theorem d_JI_numberOfTrailingZeros_0 : decode b_JI_numberOfTrailingZeros 0 = .ok (.iload_n 0, 1) := by decide +kernel
theorem d_JI_numberOfTrailingZeros_1 : decode b_JI_numberOfTrailingZeros 1 = .ok (.iconst (-1), 1) := by decide +kernel
theorem d_JI_numberOfTrailingZeros_2 : decode b_JI_numberOfTrailingZeros 2 = .ok (.ixor, 1) := by decide +kernel
theorem d_JI_numberOfTrailingZeros_3 : decode b_JI_numberOfTrailingZeros 3 = .ok (.iload_n 0, 1) := by decide +kernel
theorem d_JI_numberOfTrailingZeros_4 : decode b_JI_numberOfTrailingZeros 4 = .ok (.iconst 1, 1) := by decide +kernel
theorem d_JI_numberOfTrailingZeros_5 : decode b_JI_numberOfTrailingZeros 5 = .ok (.isub, 1) := by decide +kernel
theorem d_JI_numberOfTrailingZeros_6 : decode b_JI_numberOfTrailingZeros 6 = .ok (.iand, 1) := by decide +kernel
theorem d_JI_numberOfTrailingZeros_7 : decode b_JI_numberOfTrailingZeros 7 = .ok (.istore_n 0, 1) := by decide +kernel
theorem d_JI_numberOfTrailingZeros_8 : decode b_JI_numberOfTrailingZeros 8 = .ok (.iload_n 0, 1) := by decide +kernel
theorem d_JI_numberOfTrailingZeros_9 : decode b_JI_numberOfTrailingZeros 9 = .ok (.ifCond .gt 8, 3) := by decide +kernel
theorem d_JI_numberOfTrailingZeros_12 : decode b_JI_numberOfTrailingZeros 12 = .ok (.iload_n 0, 1) := by decide +kernel
theorem d_JI_numberOfTrailingZeros_13 : decode b_JI_numberOfTrailingZeros 13 = .ok (.bipush 32, 2) := by decide +kernel
theorem d_JI_numberOfTrailingZeros_15 : decode b_JI_numberOfTrailingZeros 15 = .ok (.iand, 1) := by decide +kernel
theorem d_JI_numberOfTrailingZeros_16 : decode b_JI_numberOfTrailingZeros 16 = .ok (.ireturn, 1) := by decide +kernel
theorem d_JI_numberOfTrailingZeros_17 : decode b_JI_numberOfTrailingZeros 17 = .ok (.iconst 1, 1) := by decide +kernel
theorem d_JI_numberOfTrailingZeros_18 : decode b_JI_numberOfTrailingZeros 18 = .ok (.istore_n 1, 1) := by decide +kernel
theorem d_JI_numberOfTrailingZeros_19 : decode b_JI_numberOfTrailingZeros 19 = .ok (.iload_n 0, 1) := by decide +kernel
theorem d_JI_numberOfTrailingZeros_20 : decode b_JI_numberOfTrailingZeros 20 = .ok (.ldc_w 264, 3) := by decide +kernel
theorem d_JI_numberOfTrailingZeros_23 : decode b_JI_numberOfTrailingZeros 23 = .ok (.if_icmp .le 11, 3) := by decide +kernel
theorem d_JI_numberOfTrailingZeros_26 : decode b_JI_numberOfTrailingZeros 26 = .ok (.iinc 1 16, 3) := by decide +kernel
theorem d_JI_numberOfTrailingZeros_29 : decode b_JI_numberOfTrailingZeros 29 = .ok (.iload_n 0, 1) := by decide +kernel
theorem d_JI_numberOfTrailingZeros_30 : decode b_JI_numberOfTrailingZeros 30 = .ok (.bipush 16, 2) := by decide +kernel
theorem d_JI_numberOfTrailingZeros_32 : decode b_JI_numberOfTrailingZeros 32 = .ok (.iushr, 1) := by decide +kernel
theorem d_JI_numberOfTrailingZeros_33 : decode b_JI_numberOfTrailingZeros 33 = .ok (.istore_n 0, 1) := by decide +kernel
theorem d_JI_numberOfTrailingZeros_34 : decode b_JI_numberOfTrailingZeros 34 = .ok (.iload_n 0, 1) := by decide +kernel
theorem d_JI_numberOfTrailingZeros_35 : decode b_JI_numberOfTrailingZeros 35 = .ok (.sipush 256, 3) := by decide +kernel
theorem d_JI_numberOfTrailingZeros_38 : decode b_JI_numberOfTrailingZeros 38 = .ok (.if_icmp .le 11, 3) := by decide +kernel
theorem d_JI_numberOfTrailingZeros_41 : decode b_JI_numberOfTrailingZeros 41 = .ok (.iinc 1 8, 3) := by decide +kernel
theorem d_JI_numberOfTrailingZeros_44 : decode b_JI_numberOfTrailingZeros 44 = .ok (.iload_n 0, 1) := by decide +kernel
theorem d_JI_numberOfTrailingZeros_45 : decode b_JI_numberOfTrailingZeros 45 = .ok (.bipush 8, 2) := by decide +kernel
theorem d_JI_numberOfTrailingZeros_47 : decode b_JI_numberOfTrailingZeros 47 = .ok (.iushr, 1) := by decide +kernel
theorem d_JI_numberOfTrailingZeros_48 : decode b_JI_numberOfTrailingZeros 48 = .ok (.istore_n 0, 1) := by decide +kernel
theorem d_JI_numberOfTrailingZeros_49 : decode b_JI_numberOfTrailingZeros 49 = .ok (.iload_n 0, 1) := by decide +kernel
theorem d_JI_numberOfTrailingZeros_50 : decode b_JI_numberOfTrailingZeros 50 = .ok (.bipush 16, 2) := by decide +kernel
theorem d_JI_numberOfTrailingZeros_52 : decode b_JI_numberOfTrailingZeros 52 = .ok (.if_icmp .le 10, 3) := by decide +kernel
theorem d_JI_numberOfTrailingZeros_55 : decode b_JI_numberOfTrailingZeros 55 = .ok (.iinc 1 4, 3) := by decide +kernel
theorem d_JI_numberOfTrailingZeros_58 : decode b_JI_numberOfTrailingZeros 58 = .ok (.iload_n 0, 1) := by decide +kernel
theorem d_JI_numberOfTrailingZeros_59 : decode b_JI_numberOfTrailingZeros 59 = .ok (.iconst 4, 1) := by decide +kernel
theorem d_JI_numberOfTrailingZeros_60 : decode b_JI_numberOfTrailingZeros 60 = .ok (.iushr, 1) := by decide +kernel
theorem d_JI_numberOfTrailingZeros_61 : decode b_JI_numberOfTrailingZeros 61 = .ok (.istore_n 0, 1) := by decide +kernel
theorem d_JI_numberOfTrailingZeros_62 : decode b_JI_numberOfTrailingZeros 62 = .ok (.iload_n 0, 1) := by decide +kernel
theorem d_JI_numberOfTrailingZeros_63 : decode b_JI_numberOfTrailingZeros 63 = .ok (.iconst 4, 1) := by decide +kernel
theorem d_JI_numberOfTrailingZeros_64 : decode b_JI_numberOfTrailingZeros 64 = .ok (.if_icmp .le 10, 3) := by decide +kernel
theorem d_JI_numberOfTrailingZeros_67 : decode b_JI_numberOfTrailingZeros 67 = .ok (.iinc 1 2, 3) := by decide +kernel
theorem d_JI_numberOfTrailingZeros_70 : decode b_JI_numberOfTrailingZeros 70 = .ok (.iload_n 0, 1) := by decide +kernel
theorem d_JI_numberOfTrailingZeros_71 : decode b_JI_numberOfTrailingZeros 71 = .ok (.iconst 2, 1) := by decide +kernel
theorem d_JI_numberOfTrailingZeros_72 : decode b_JI_numberOfTrailingZeros 72 = .ok (.iushr, 1) := by decide +kernel
theorem d_JI_numberOfTrailingZeros_73 : decode b_JI_numberOfTrailingZeros 73 = .ok (.istore_n 0, 1) := by decide +kernel
theorem d_JI_numberOfTrailingZeros_74 : decode b_JI_numberOfTrailingZeros 74 = .ok (.iload_n 1, 1) := by decide +kernel
theorem d_JI_numberOfTrailingZeros_75 : decode b_JI_numberOfTrailingZeros 75 = .ok (.iload_n 0, 1) := by decide +kernel
theorem d_JI_numberOfTrailingZeros_76 : decode b_JI_numberOfTrailingZeros 76 = .ok (.iconst 1, 1) := by decide +kernel
theorem d_JI_numberOfTrailingZeros_77 : decode b_JI_numberOfTrailingZeros 77 = .ok (.iushr, 1) := by decide +kernel
theorem d_JI_numberOfTrailingZeros_78 : decode b_JI_numberOfTrailingZeros 78 = .ok (.iadd, 1) := by decide +kernel
theorem d_JI_numberOfTrailingZeros_79 : decode b_JI_numberOfTrailingZeros 79 = .ok (.ireturn, 1) := by decide +kernel
