theorem d_W_init_0 : decode b_W_init 0 = .ok (.aload_n 0, 1) := by decide +kernel
theorem d_W_init_1 : decode b_W_init 1 = .ok (.invokespecial 3, 3) := by decide +kernel
theorem d_W_init_4 : decode b_W_init 4 = .ok (.aload_n 0, 1) := by decide +kernel
theorem d_W_init_5 : decode b_W_init 5 = .ok (.bipush 30, 2) := by decide +kernel
theorem d_W_init_7 : decode b_W_init 7 = .ok (.newarray .int, 2) := by decide +kernel
theorem d_W_init_9 : decode b_W_init 9 = .ok (.putfield 9, 3) := by decide +kernel
theorem d_W_init_12 : decode b_W_init 12 = .ok (.aload_n 0, 1) := by decide +kernel
theorem d_W_init_13 : decode b_W_init 13 = .ok (.bipush 30, 2) := by decide +kernel
theorem d_W_init_15 : decode b_W_init 15 = .ok (.newarray .int, 2) := by decide +kernel
theorem d_W_init_17 : decode b_W_init 17 = .ok (.putfield 15, 3) := by decide +kernel
theorem d_W_init_20 : decode b_W_init 20 = .ok (.aload_n 0, 1) := by decide +kernel
theorem d_W_init_21 : decode b_W_init 21 = .ok (.bipush 60, 2) := by decide +kernel
theorem d_W_init_23 : decode b_W_init 23 = .ok (.newarray .int, 2) := by decide +kernel
theorem d_W_init_25 : decode b_W_init 25 = .ok (.putfield 18, 3) := by decide +kernel
theorem d_W_init_28 : decode b_W_init 28 = .ok (.aload_n 0, 1) := by decide +kernel
theorem d_W_init_29 : decode b_W_init 29 = .ok (.bipush 30, 2) := by decide +kernel
theorem d_W_init_31 : decode b_W_init 31 = .ok (.newarray .int, 2) := by decide +kernel
theorem d_W_init_33 : decode b_W_init 33 = .ok (.putfield 21, 3) := by decide +kernel
theorem d_W_init_36 : decode b_W_init 36 = .ok (.aload_n 0, 1) := by decide +kernel
theorem d_W_init_37 : decode b_W_init 37 = .ok (.bipush 30, 2) := by decide +kernel
theorem d_W_init_39 : decode b_W_init 39 = .ok (.newarray .int, 2) := by decide +kernel
theorem d_W_init_41 : decode b_W_init 41 = .ok (.putfield 24, 3) := by decide +kernel
theorem d_W_init_44 : decode b_W_init 44 = .ok (.return_, 1) := by decide +kernel
theorem d_W_growOver_0 : decode b_W_growOver 0 = .ok (.aload_n 0, 1) := by decide +kernel
theorem d_W_growOver_1 : decode b_W_growOver 1 = .ok (.aload_n 1, 1) := by decide +kernel
theorem d_W_growOver_2 : decode b_W_growOver 2 = .ok (.invokevirtual 27, 3) := by decide +kernel
theorem d_W_growOver_5 : decode b_W_growOver 5 = .ok (.aload_n 0, 1) := by decide +kernel
theorem d_W_growOver_6 : decode b_W_growOver 6 = .ok (.aload_n 1, 1) := by decide +kernel
theorem d_W_growOver_7 : decode b_W_growOver 7 = .ok (.invokevirtual 31, 3) := by decide +kernel
theorem d_W_growOver_10 : decode b_W_growOver 10 = .ok (.istore_n 2, 1) := by decide +kernel
theorem d_W_growOver_11 : decode b_W_growOver 11 = .ok (.iload_n 2, 1) := by decide +kernel
theorem d_W_growOver_12 : decode b_W_growOver 12 = .ok (.ifCond .eq 53, 3) := by decide +kernel
theorem d_W_growOver_15 : decode b_W_growOver 15 = .ok (.aload_n 0, 1) := by decide +kernel
theorem d_W_growOver_16 : decode b_W_growOver 16 = .ok (.getfield 35, 3) := by decide +kernel
theorem d_W_growOver_19 : decode b_W_growOver 19 = .ok (.sipush 1201, 3) := by decide +kernel
theorem d_W_growOver_22 : decode b_W_growOver 22 = .ok (.if_icmp .ge 43, 3) := by decide +kernel
theorem d_W_growOver_25 : decode b_W_growOver 25 = .ok (.aload_n 0, 1) := by decide +kernel
theorem d_W_growOver_26 : decode b_W_growOver 26 = .ok (.dup, 1) := by decide +kernel
theorem d_W_growOver_27 : decode b_W_growOver 27 = .ok (.getfield 35, 3) := by decide +kernel
theorem d_W_growOver_30 : decode b_W_growOver 30 = .ok (.iconst 1, 1) := by decide +kernel
theorem d_W_growOver_31 : decode b_W_growOver 31 = .ok (.iadd, 1) := by decide +kernel
theorem d_W_growOver_32 : decode b_W_growOver 32 = .ok (.putfield 35, 3) := by decide +kernel
theorem d_W_growOver_35 : decode b_W_growOver 35 = .ok (.aload_n 0, 1) := by decide +kernel
theorem d_W_growOver_36 : decode b_W_growOver 36 = .ok (.aload_n 1, 1) := by decide +kernel
theorem d_W_growOver_37 : decode b_W_growOver 37 = .ok (.iload_n 2, 1) := by decide +kernel
theorem d_W_growOver_38 : decode b_W_growOver 38 = .ok (.invokevirtual 39, 3) := by decide +kernel
theorem d_W_growOver_41 : decode b_W_growOver 41 = .ok (.lstore_n 3, 1) := by decide +kernel
theorem d_W_growOver_42 : decode b_W_growOver 42 = .ok (.lload_n 3, 1) := by decide +kernel
theorem d_W_growOver_43 : decode b_W_growOver 43 = .ok (.lconst 0, 1) := by decide +kernel
theorem d_W_growOver_44 : decode b_W_growOver 44 = .ok (.lcmp, 1) := by decide +kernel
theorem d_W_growOver_45 : decode b_W_growOver 45 = .ok (.ifCond .ne 5, 3) := by decide +kernel
theorem d_W_growOver_48 : decode b_W_growOver 48 = .ok (.iconst 0, 1) := by decide +kernel
theorem d_W_growOver_49 : decode b_W_growOver 49 = .ok (.ireturn, 1) := by decide +kernel
theorem d_W_growOver_50 : decode b_W_growOver 50 = .ok (.aload_n 0, 1) := by decide +kernel
theorem d_W_growOver_51 : decode b_W_growOver 51 = .ok (.aload_n 1, 1) := by decide +kernel
theorem d_W_growOver_52 : decode b_W_growOver 52 = .ok (.lload_n 3, 1) := by decide +kernel
theorem d_W_growOver_53 : decode b_W_growOver 53 = .ok (.invokevirtual 43, 3) := by decide +kernel
theorem d_W_growOver_56 : decode b_W_growOver 56 = .ok (.aload_n 0, 1) := by decide +kernel
theorem d_W_growOver_57 : decode b_W_growOver 57 = .ok (.aload_n 1, 1) := by decide +kernel
theorem d_W_growOver_58 : decode b_W_growOver 58 = .ok (.invokevirtual 31, 3) := by decide +kernel
theorem d_W_growOver_61 : decode b_W_growOver 61 = .ok (.istore_n 2, 1) := by decide +kernel
theorem d_W_growOver_62 : decode b_W_growOver 62 = .ok (.goto (-51), 3) := by decide +kernel
theorem d_W_growOver_65 : decode b_W_growOver 65 = .ok (.aload_n 0, 1) := by decide +kernel
theorem d_W_growOver_66 : decode b_W_growOver 66 = .ok (.aload_n 1, 1) := by decide +kernel
theorem d_W_growOver_67 : decode b_W_growOver 67 = .ok (.invokevirtual 47, 3) := by decide +kernel
theorem d_W_growOver_70 : decode b_W_growOver 70 = .ok (.iconst 1, 1) := by decide +kernel
theorem d_W_growOver_71 : decode b_W_growOver 71 = .ok (.ireturn, 1) := by decide +kernel
theorem d_W_begin_0 : decode b_W_begin 0 = .ok (.aload_n 0, 1) := by decide +kernel
theorem d_W_begin_1 : decode b_W_begin 1 = .ok (.aload_n 1, 1) := by decide +kernel
theorem d_W_begin_2 : decode b_W_begin 2 = .ok (.getfield 50, 3) := by decide +kernel
theorem d_W_begin_5 : decode b_W_begin 5 = .ok (.putfield 55, 3) := by decide +kernel
theorem d_W_begin_8 : decode b_W_begin 8 = .ok (.aload_n 0, 1) := by decide +kernel
theorem d_W_begin_9 : decode b_W_begin 9 = .ok (.aload_n 1, 1) := by decide +kernel
theorem d_W_begin_10 : decode b_W_begin 10 = .ok (.getfield 56, 3) := by decide +kernel
theorem d_W_begin_13 : decode b_W_begin 13 = .ok (.putfield 59, 3) := by decide +kernel
theorem d_W_begin_16 : decode b_W_begin 16 = .ok (.aload_n 0, 1) := by decide +kernel
theorem d_W_begin_17 : decode b_W_begin 17 = .ok (.aload_n 0, 1) := by decide +kernel
theorem d_W_begin_18 : decode b_W_begin 18 = .ok (.getfield 55, 3) := by decide +kernel
theorem d_W_begin_21 : decode b_W_begin 21 = .ok (.putfield 60, 3) := by decide +kernel
theorem d_W_begin_24 : decode b_W_begin 24 = .ok (.aload_n 0, 1) := by decide +kernel
theorem d_W_begin_25 : decode b_W_begin 25 = .ok (.iconst 0, 1) := by decide +kernel
theorem d_W_begin_26 : decode b_W_begin 26 = .ok (.putfield 35, 3) := by decide +kernel
theorem d_W_begin_29 : decode b_W_begin 29 = .ok (.aload_n 0, 1) := by decide +kernel
theorem d_W_begin_30 : decode b_W_begin 30 = .ok (.lconst 0, 1) := by decide +kernel
theorem d_W_begin_31 : decode b_W_begin 31 = .ok (.putfield 63, 3) := by decide +kernel
theorem d_W_begin_34 : decode b_W_begin 34 = .ok (.aload_n 0, 1) := by decide +kernel
theorem d_W_begin_35 : decode b_W_begin 35 = .ok (.lconst 0, 1) := by decide +kernel
theorem d_W_begin_36 : decode b_W_begin 36 = .ok (.putfield 67, 3) := by decide +kernel
theorem d_W_begin_39 : decode b_W_begin 39 = .ok (.iconst 0, 1) := by decide +kernel
theorem d_W_begin_40 : decode b_W_begin 40 = .ok (.istore_n 2, 1) := by decide +kernel
theorem d_W_begin_41 : decode b_W_begin 41 = .ok (.iload_n 2, 1) := by decide +kernel
theorem d_W_begin_42 : decode b_W_begin 42 = .ok (.aload_n 0, 1) := by decide +kernel
theorem d_W_begin_43 : decode b_W_begin 43 = .ok (.getfield 55, 3) := by decide +kernel
theorem d_W_begin_46 : decode b_W_begin 46 = .ok (.if_icmp .ge 25, 3) := by decide +kernel
theorem d_W_begin_49 : decode b_W_begin 49 = .ok (.aload_n 0, 1) := by decide +kernel
theorem d_W_begin_50 : decode b_W_begin 50 = .ok (.getfield 9, 3) := by decide +kernel
theorem d_W_begin_53 : decode b_W_begin 53 = .ok (.iload_n 2, 1) := by decide +kernel
theorem d_W_begin_54 : decode b_W_begin 54 = .ok (.iload_n 2, 1) := by decide +kernel
theorem d_W_begin_55 : decode b_W_begin 55 = .ok (.iastore, 1) := by decide +kernel
theorem d_W_begin_56 : decode b_W_begin 56 = .ok (.aload_n 0, 1) := by decide +kernel
theorem d_W_begin_57 : decode b_W_begin 57 = .ok (.getfield 15, 3) := by decide +kernel
theorem d_W_begin_60 : decode b_W_begin 60 = .ok (.iload_n 2, 1) := by decide +kernel
theorem d_W_begin_61 : decode b_W_begin 61 = .ok (.iconst 1, 1) := by decide +kernel
theorem d_W_begin_62 : decode b_W_begin 62 = .ok (.iload_n 2, 1) := by decide +kernel
theorem d_W_begin_63 : decode b_W_begin 63 = .ok (.ishl, 1) := by decide +kernel
theorem d_W_begin_64 : decode b_W_begin 64 = .ok (.iastore, 1) := by decide +kernel
theorem d_W_begin_65 : decode b_W_begin 65 = .ok (.iinc 2 1, 3) := by decide +kernel
theorem d_W_begin_68 : decode b_W_begin 68 = .ok (.goto (-27), 3) := by decide +kernel
theorem d_W_begin_71 : decode b_W_begin 71 = .ok (.aload_n 0, 1) := by decide +kernel
theorem d_W_begin_72 : decode b_W_begin 72 = .ok (.getfield 18, 3) := by decide +kernel
theorem d_W_begin_75 : decode b_W_begin 75 = .ok (.iconst 0, 1) := by decide +kernel
theorem d_W_begin_76 : decode b_W_begin 76 = .ok (.invokestatic 70, 3) := by decide +kernel
theorem d_W_begin_79 : decode b_W_begin 79 = .ok (.return_, 1) := by decide +kernel
theorem d_W_pointsOfOddClusters_0 : decode b_W_pointsOfOddClusters 0 = .ok (.iconst 0, 1) := by decide +kernel
theorem d_W_pointsOfOddClusters_1 : decode b_W_pointsOfOddClusters 1 = .ok (.istore_n 2, 1) := by decide +kernel
theorem d_W_pointsOfOddClusters_2 : decode b_W_pointsOfOddClusters 2 = .ok (.iconst 0, 1) := by decide +kernel
theorem d_W_pointsOfOddClusters_3 : decode b_W_pointsOfOddClusters 3 = .ok (.istore_n 3, 1) := by decide +kernel
theorem d_W_pointsOfOddClusters_4 : decode b_W_pointsOfOddClusters 4 = .ok (.iload_n 3, 1) := by decide +kernel
theorem d_W_pointsOfOddClusters_5 : decode b_W_pointsOfOddClusters 5 = .ok (.aload_n 0, 1) := by decide +kernel
theorem d_W_pointsOfOddClusters_6 : decode b_W_pointsOfOddClusters 6 = .ok (.getfield 55, 3) := by decide +kernel
theorem d_W_pointsOfOddClusters_9 : decode b_W_pointsOfOddClusters 9 = .ok (.if_icmp .ge 41, 3) := by decide +kernel
theorem d_W_pointsOfOddClusters_12 : decode b_W_pointsOfOddClusters 12 = .ok (.aload_n 0, 1) := by decide +kernel
theorem d_W_pointsOfOddClusters_13 : decode b_W_pointsOfOddClusters 13 = .ok (.getfield 9, 3) := by decide +kernel
theorem d_W_pointsOfOddClusters_16 : decode b_W_pointsOfOddClusters 16 = .ok (.iload_n 3, 1) := by decide +kernel
theorem d_W_pointsOfOddClusters_17 : decode b_W_pointsOfOddClusters 17 = .ok (.iaload, 1) := by decide +kernel
theorem d_W_pointsOfOddClusters_18 : decode b_W_pointsOfOddClusters 18 = .ok (.iload_n 3, 1) := by decide +kernel
theorem d_W_pointsOfOddClusters_19 : decode b_W_pointsOfOddClusters 19 = .ok (.if_icmp .ne 25, 3) := by decide +kernel
theorem d_W_pointsOfOddClusters_22 : decode b_W_pointsOfOddClusters 22 = .ok (.aload_n 1, 1) := by decide +kernel
theorem d_W_pointsOfOddClusters_23 : decode b_W_pointsOfOddClusters 23 = .ok (.aload_n 0, 1) := by decide +kernel
theorem d_W_pointsOfOddClusters_24 : decode b_W_pointsOfOddClusters 24 = .ok (.getfield 15, 3) := by decide +kernel
theorem d_W_pointsOfOddClusters_27 : decode b_W_pointsOfOddClusters 27 = .ok (.iload_n 3, 1) := by decide +kernel
theorem d_W_pointsOfOddClusters_28 : decode b_W_pointsOfOddClusters 28 = .ok (.iaload, 1) := by decide +kernel
theorem d_W_pointsOfOddClusters_29 : decode b_W_pointsOfOddClusters 29 = .ok (.invokestatic 76, 3) := by decide +kernel
theorem d_W_pointsOfOddClusters_32 : decode b_W_pointsOfOddClusters 32 = .ok (.ifCond .eq 12, 3) := by decide +kernel
theorem d_W_pointsOfOddClusters_35 : decode b_W_pointsOfOddClusters 35 = .ok (.iload_n 2, 1) := by decide +kernel
theorem d_W_pointsOfOddClusters_36 : decode b_W_pointsOfOddClusters 36 = .ok (.aload_n 0, 1) := by decide +kernel
theorem d_W_pointsOfOddClusters_37 : decode b_W_pointsOfOddClusters 37 = .ok (.getfield 15, 3) := by decide +kernel
theorem d_W_pointsOfOddClusters_40 : decode b_W_pointsOfOddClusters 40 = .ok (.iload_n 3, 1) := by decide +kernel
theorem d_W_pointsOfOddClusters_41 : decode b_W_pointsOfOddClusters 41 = .ok (.iaload, 1) := by decide +kernel
theorem d_W_pointsOfOddClusters_42 : decode b_W_pointsOfOddClusters 42 = .ok (.ior, 1) := by decide +kernel
theorem d_W_pointsOfOddClusters_43 : decode b_W_pointsOfOddClusters 43 = .ok (.istore_n 2, 1) := by decide +kernel
theorem d_W_pointsOfOddClusters_44 : decode b_W_pointsOfOddClusters 44 = .ok (.iinc 3 1, 3) := by decide +kernel
theorem d_W_pointsOfOddClusters_47 : decode b_W_pointsOfOddClusters 47 = .ok (.goto (-43), 3) := by decide +kernel
theorem d_W_pointsOfOddClusters_50 : decode b_W_pointsOfOddClusters 50 = .ok (.iload_n 2, 1) := by decide +kernel
theorem d_W_pointsOfOddClusters_51 : decode b_W_pointsOfOddClusters 51 = .ok (.ireturn, 1) := by decide +kernel
theorem d_W_isOdd_0 : decode b_W_isOdd 0 = .ok (.iload_n 1, 1) := by decide +kernel
theorem d_W_isOdd_1 : decode b_W_isOdd 1 = .ok (.aload_n 0, 1) := by decide +kernel
theorem d_W_isOdd_2 : decode b_W_isOdd 2 = .ok (.getfield 80, 3) := by decide +kernel
theorem d_W_isOdd_5 : decode b_W_isOdd 5 = .ok (.iand, 1) := by decide +kernel
theorem d_W_isOdd_6 : decode b_W_isOdd 6 = .ok (.ifCond .ne 21, 3) := by decide +kernel
theorem d_W_isOdd_9 : decode b_W_isOdd 9 = .ok (.iload_n 1, 1) := by decide +kernel
theorem d_W_isOdd_10 : decode b_W_isOdd 10 = .ok (.aload_n 0, 1) := by decide +kernel
theorem d_W_isOdd_11 : decode b_W_isOdd 11 = .ok (.getfield 83, 3) := by decide +kernel
theorem d_W_isOdd_14 : decode b_W_isOdd 14 = .ok (.iand, 1) := by decide +kernel
theorem d_W_isOdd_15 : decode b_W_isOdd 15 = .ok (.invokestatic 86, 3) := by decide +kernel
theorem d_W_isOdd_18 : decode b_W_isOdd 18 = .ok (.iconst 1, 1) := by decide +kernel
theorem d_W_isOdd_19 : decode b_W_isOdd 19 = .ok (.iand, 1) := by decide +kernel
theorem d_W_isOdd_20 : decode b_W_isOdd 20 = .ok (.ifCond .eq 7, 3) := by decide +kernel
theorem d_W_isOdd_23 : decode b_W_isOdd 23 = .ok (.iconst 1, 1) := by decide +kernel
theorem d_W_isOdd_24 : decode b_W_isOdd 24 = .ok (.goto 4, 3) := by decide +kernel
theorem d_W_isOdd_27 : decode b_W_isOdd 27 = .ok (.iconst 0, 1) := by decide +kernel
theorem d_W_isOdd_28 : decode b_W_isOdd 28 = .ok (.ireturn, 1) := by decide +kernel
theorem d_W_feed_0 : decode b_W_feed 0 = .ok (.lconst 0, 1) := by decide +kernel
theorem d_W_feed_1 : decode b_W_feed 1 = .ok (.lstore_n 3, 1) := by decide +kernel
theorem d_W_feed_2 : decode b_W_feed 2 = .ok (.iconst 0, 1) := by decide +kernel
theorem d_W_feed_3 : decode b_W_feed 3 = .ok (.istore 5, 2) := by decide +kernel
theorem d_W_feed_5 : decode b_W_feed 5 = .ok (.iload 5, 2) := by decide +kernel
theorem d_W_feed_7 : decode b_W_feed 7 = .ok (.aload_n 0, 1) := by decide +kernel
theorem d_W_feed_8 : decode b_W_feed 8 = .ok (.getfield 59, 3) := by decide +kernel
theorem d_W_feed_11 : decode b_W_feed 11 = .ok (.if_icmp .ge 75, 3) := by decide +kernel
theorem d_W_feed_14 : decode b_W_feed 14 = .ok (.iload_n 2, 1) := by decide +kernel
theorem d_W_feed_15 : decode b_W_feed 15 = .ok (.aload_n 1, 1) := by decide +kernel
theorem d_W_feed_16 : decode b_W_feed 16 = .ok (.getfield 92, 3) := by decide +kernel
theorem d_W_feed_19 : decode b_W_feed 19 = .ok (.iload 5, 2) := by decide +kernel
theorem d_W_feed_21 : decode b_W_feed 21 = .ok (.iaload, 1) := by decide +kernel
theorem d_W_feed_22 : decode b_W_feed 22 = .ok (.iushr, 1) := by decide +kernel
theorem d_W_feed_23 : decode b_W_feed 23 = .ok (.iconst 1, 1) := by decide +kernel
theorem d_W_feed_24 : decode b_W_feed 24 = .ok (.iand, 1) := by decide +kernel
theorem d_W_feed_25 : decode b_W_feed 25 = .ok (.iload_n 2, 1) := by decide +kernel
theorem d_W_feed_26 : decode b_W_feed 26 = .ok (.aload_n 1, 1) := by decide +kernel
theorem d_W_feed_27 : decode b_W_feed 27 = .ok (.getfield 95, 3) := by decide +kernel
theorem d_W_feed_30 : decode b_W_feed 30 = .ok (.iload 5, 2) := by decide +kernel
theorem d_W_feed_32 : decode b_W_feed 32 = .ok (.iaload, 1) := by decide +kernel
theorem d_W_feed_33 : decode b_W_feed 33 = .ok (.iushr, 1) := by decide +kernel
theorem d_W_feed_34 : decode b_W_feed 34 = .ok (.iconst 1, 1) := by decide +kernel
theorem d_W_feed_35 : decode b_W_feed 35 = .ok (.iand, 1) := by decide +kernel
theorem d_W_feed_36 : decode b_W_feed 36 = .ok (.iadd, 1) := by decide +kernel
theorem d_W_feed_37 : decode b_W_feed 37 = .ok (.istore 6, 2) := by decide +kernel
theorem d_W_feed_39 : decode b_W_feed 39 = .ok (.aload_n 0, 1) := by decide +kernel
theorem d_W_feed_40 : decode b_W_feed 40 = .ok (.getfield 18, 3) := by decide +kernel
theorem d_W_feed_43 : decode b_W_feed 43 = .ok (.iload 5, 2) := by decide +kernel
theorem d_W_feed_45 : decode b_W_feed 45 = .ok (.iaload, 1) := by decide +kernel
theorem d_W_feed_46 : decode b_W_feed 46 = .ok (.aload_n 1, 1) := by decide +kernel
theorem d_W_feed_47 : decode b_W_feed 47 = .ok (.getfield 98, 3) := by decide +kernel
theorem d_W_feed_50 : decode b_W_feed 50 = .ok (.iload 5, 2) := by decide +kernel
theorem d_W_feed_52 : decode b_W_feed 52 = .ok (.iaload, 1) := by decide +kernel
theorem d_W_feed_53 : decode b_W_feed 53 = .ok (.if_icmp .ge 27, 3) := by decide +kernel
theorem d_W_feed_56 : decode b_W_feed 56 = .ok (.iload 6, 2) := by decide +kernel
theorem d_W_feed_58 : decode b_W_feed 58 = .ok (.ifCond .le 22, 3) := by decide +kernel
theorem d_W_feed_61 : decode b_W_feed 61 = .ok (.aload_n 0, 1) := by decide +kernel
theorem d_W_feed_62 : decode b_W_feed 62 = .ok (.getfield 18, 3) := by decide +kernel
theorem d_W_feed_65 : decode b_W_feed 65 = .ok (.iload 5, 2) := by decide +kernel
theorem d_W_feed_67 : decode b_W_feed 67 = .ok (.dup2, 1) := by decide +kernel
theorem d_W_feed_68 : decode b_W_feed 68 = .ok (.iaload, 1) := by decide +kernel
theorem d_W_feed_69 : decode b_W_feed 69 = .ok (.iload 6, 2) := by decide +kernel
theorem d_W_feed_71 : decode b_W_feed 71 = .ok (.iadd, 1) := by decide +kernel
theorem d_W_feed_72 : decode b_W_feed 72 = .ok (.iastore, 1) := by decide +kernel
theorem d_W_feed_73 : decode b_W_feed 73 = .ok (.lload_n 3, 1) := by decide +kernel
theorem d_W_feed_74 : decode b_W_feed 74 = .ok (.lconst 1, 1) := by decide +kernel
theorem d_W_feed_75 : decode b_W_feed 75 = .ok (.iload 5, 2) := by decide +kernel
theorem d_W_feed_77 : decode b_W_feed 77 = .ok (.lshl, 1) := by decide +kernel
theorem d_W_feed_78 : decode b_W_feed 78 = .ok (.lor, 1) := by decide +kernel
theorem d_W_feed_79 : decode b_W_feed 79 = .ok (.lstore_n 3, 1) := by decide +kernel
theorem d_W_feed_80 : decode b_W_feed 80 = .ok (.iinc 5 1, 3) := by decide +kernel
theorem d_W_feed_83 : decode b_W_feed 83 = .ok (.goto (-78), 3) := by decide +kernel
theorem d_W_feed_86 : decode b_W_feed 86 = .ok (.lload_n 3, 1) := by decide +kernel
theorem d_W_feed_87 : decode b_W_feed 87 = .ok (.lreturn, 1) := by decide +kernel
theorem d_W_joinFull_0 : decode b_W_joinFull 0 = .ok (.iconst 0, 1) := by decide +kernel
theorem d_W_joinFull_1 : decode b_W_joinFull 1 = .ok (.istore 4, 2) := by decide +kernel
theorem d_W_joinFull_3 : decode b_W_joinFull 3 = .ok (.iload 4, 2) := by decide +kernel
theorem d_W_joinFull_5 : decode b_W_joinFull 5 = .ok (.aload_n 0, 1) := by decide +kernel
theorem d_W_joinFull_6 : decode b_W_joinFull 6 = .ok (.getfield 59, 3) := by decide +kernel
theorem d_W_joinFull_9 : decode b_W_joinFull 9 = .ok (.if_icmp .ge 117, 3) := by decide +kernel
theorem d_W_joinFull_12 : decode b_W_joinFull 12 = .ok (.lload_n 2, 1) := by decide +kernel
theorem d_W_joinFull_13 : decode b_W_joinFull 13 = .ok (.iload 4, 2) := by decide +kernel
theorem d_W_joinFull_15 : decode b_W_joinFull 15 = .ok (.lushr, 1) := by decide +kernel
theorem d_W_joinFull_16 : decode b_W_joinFull 16 = .ok (.lconst 1, 1) := by decide +kernel
theorem d_W_joinFull_17 : decode b_W_joinFull 17 = .ok (.land, 1) := by decide +kernel
theorem d_W_joinFull_18 : decode b_W_joinFull 18 = .ok (.lconst 0, 1) := by decide +kernel
theorem d_W_joinFull_19 : decode b_W_joinFull 19 = .ok (.lcmp, 1) := by decide +kernel
theorem d_W_joinFull_20 : decode b_W_joinFull 20 = .ok (.ifCond .eq 24, 3) := by decide +kernel
theorem d_W_joinFull_23 : decode b_W_joinFull 23 = .ok (.aload_n 0, 1) := by decide +kernel
theorem d_W_joinFull_24 : decode b_W_joinFull 24 = .ok (.getfield 18, 3) := by decide +kernel
theorem d_W_joinFull_27 : decode b_W_joinFull 27 = .ok (.iload 4, 2) := by decide +kernel
theorem d_W_joinFull_29 : decode b_W_joinFull 29 = .ok (.iaload, 1) := by decide +kernel
theorem d_W_joinFull_30 : decode b_W_joinFull 30 = .ok (.aload_n 1, 1) := by decide +kernel
theorem d_W_joinFull_31 : decode b_W_joinFull 31 = .ok (.getfield 98, 3) := by decide +kernel
theorem d_W_joinFull_34 : decode b_W_joinFull 34 = .ok (.iload 4, 2) := by decide +kernel
theorem d_W_joinFull_36 : decode b_W_joinFull 36 = .ok (.iaload, 1) := by decide +kernel
theorem d_W_joinFull_37 : decode b_W_joinFull 37 = .ok (.if_icmp .lt 7, 3) := by decide +kernel
theorem d_W_joinFull_40 : decode b_W_joinFull 40 = .ok (.iconst 1, 1) := by decide +kernel
theorem d_W_joinFull_41 : decode b_W_joinFull 41 = .ok (.goto 4, 3) := by decide +kernel
theorem d_W_joinFull_44 : decode b_W_joinFull 44 = .ok (.iconst 0, 1) := by decide +kernel
theorem d_W_joinFull_45 : decode b_W_joinFull 45 = .ok (.istore 5, 2) := by decide +kernel
theorem d_W_joinFull_47 : decode b_W_joinFull 47 = .ok (.iload 5, 2) := by decide +kernel
theorem d_W_joinFull_49 : decode b_W_joinFull 49 = .ok (.ifCond .eq 71, 3) := by decide +kernel
theorem d_W_joinFull_52 : decode b_W_joinFull 52 = .ok (.aload_n 0, 1) := by decide +kernel
theorem d_W_joinFull_53 : decode b_W_joinFull 53 = .ok (.getfield 9, 3) := by decide +kernel
theorem d_W_joinFull_56 : decode b_W_joinFull 56 = .ok (.aload_n 1, 1) := by decide +kernel
theorem d_W_joinFull_57 : decode b_W_joinFull 57 = .ok (.getfield 92, 3) := by decide +kernel
theorem d_W_joinFull_60 : decode b_W_joinFull 60 = .ok (.iload 4, 2) := by decide +kernel
theorem d_W_joinFull_62 : decode b_W_joinFull 62 = .ok (.iaload, 1) := by decide +kernel
theorem d_W_joinFull_63 : decode b_W_joinFull 63 = .ok (.iaload, 1) := by decide +kernel
theorem d_W_joinFull_64 : decode b_W_joinFull 64 = .ok (.aload_n 0, 1) := by decide +kernel
theorem d_W_joinFull_65 : decode b_W_joinFull 65 = .ok (.getfield 9, 3) := by decide +kernel
theorem d_W_joinFull_68 : decode b_W_joinFull 68 = .ok (.aload_n 1, 1) := by decide +kernel
theorem d_W_joinFull_69 : decode b_W_joinFull 69 = .ok (.getfield 95, 3) := by decide +kernel
theorem d_W_joinFull_72 : decode b_W_joinFull 72 = .ok (.iload 4, 2) := by decide +kernel
theorem d_W_joinFull_74 : decode b_W_joinFull 74 = .ok (.iaload, 1) := by decide +kernel
theorem d_W_joinFull_75 : decode b_W_joinFull 75 = .ok (.iaload, 1) := by decide +kernel
theorem d_W_joinFull_76 : decode b_W_joinFull 76 = .ok (.if_icmp .eq 44, 3) := by decide +kernel
theorem d_W_joinFull_79 : decode b_W_joinFull 79 = .ok (.aload_n 0, 1) := by decide +kernel
theorem d_W_joinFull_80 : decode b_W_joinFull 80 = .ok (.aload_n 0, 1) := by decide +kernel
theorem d_W_joinFull_81 : decode b_W_joinFull 81 = .ok (.getfield 9, 3) := by decide +kernel
theorem d_W_joinFull_84 : decode b_W_joinFull 84 = .ok (.aload_n 1, 1) := by decide +kernel
theorem d_W_joinFull_85 : decode b_W_joinFull 85 = .ok (.getfield 92, 3) := by decide +kernel
theorem d_W_joinFull_88 : decode b_W_joinFull 88 = .ok (.iload 4, 2) := by decide +kernel
theorem d_W_joinFull_90 : decode b_W_joinFull 90 = .ok (.iaload, 1) := by decide +kernel
theorem d_W_joinFull_91 : decode b_W_joinFull 91 = .ok (.iaload, 1) := by decide +kernel
theorem d_W_joinFull_92 : decode b_W_joinFull 92 = .ok (.aload_n 0, 1) := by decide +kernel
theorem d_W_joinFull_93 : decode b_W_joinFull 93 = .ok (.getfield 9, 3) := by decide +kernel
theorem d_W_joinFull_96 : decode b_W_joinFull 96 = .ok (.aload_n 1, 1) := by decide +kernel
theorem d_W_joinFull_97 : decode b_W_joinFull 97 = .ok (.getfield 95, 3) := by decide +kernel
theorem d_W_joinFull_100 : decode b_W_joinFull 100 = .ok (.iload 4, 2) := by decide +kernel
theorem d_W_joinFull_102 : decode b_W_joinFull 102 = .ok (.iaload, 1) := by decide +kernel
theorem d_W_joinFull_103 : decode b_W_joinFull 103 = .ok (.iaload, 1) := by decide +kernel
theorem d_W_joinFull_104 : decode b_W_joinFull 104 = .ok (.invokevirtual 101, 3) := by decide +kernel
theorem d_W_joinFull_107 : decode b_W_joinFull 107 = .ok (.aload_n 0, 1) := by decide +kernel
theorem d_W_joinFull_108 : decode b_W_joinFull 108 = .ok (.dup, 1) := by decide +kernel
theorem d_W_joinFull_109 : decode b_W_joinFull 109 = .ok (.getfield 63, 3) := by decide +kernel
theorem d_W_joinFull_112 : decode b_W_joinFull 112 = .ok (.lconst 1, 1) := by decide +kernel
theorem d_W_joinFull_113 : decode b_W_joinFull 113 = .ok (.iload 4, 2) := by decide +kernel
theorem d_W_joinFull_115 : decode b_W_joinFull 115 = .ok (.lshl, 1) := by decide +kernel
theorem d_W_joinFull_116 : decode b_W_joinFull 116 = .ok (.lor, 1) := by decide +kernel
theorem d_W_joinFull_117 : decode b_W_joinFull 117 = .ok (.putfield 63, 3) := by decide +kernel
theorem d_W_joinFull_120 : decode b_W_joinFull 120 = .ok (.iinc 4 1, 3) := by decide +kernel
theorem d_W_joinFull_123 : decode b_W_joinFull 123 = .ok (.goto (-120), 3) := by decide +kernel
theorem d_W_joinFull_126 : decode b_W_joinFull 126 = .ok (.return_, 1) := by decide +kernel
theorem d_W_join_0 : decode b_W_join 0 = .ok (.iload_n 1, 1) := by decide +kernel
theorem d_W_join_1 : decode b_W_join 1 = .ok (.iload_n 2, 1) := by decide +kernel
theorem d_W_join_2 : decode b_W_join 2 = .ok (.invokestatic 105, 3) := by decide +kernel
theorem d_W_join_5 : decode b_W_join 5 = .ok (.istore_n 3, 1) := by decide +kernel
theorem d_W_join_6 : decode b_W_join 6 = .ok (.iload_n 1, 1) := by decide +kernel
theorem d_W_join_7 : decode b_W_join 7 = .ok (.iload_n 2, 1) := by decide +kernel
theorem d_W_join_8 : decode b_W_join 8 = .ok (.invokestatic 111, 3) := by decide +kernel
theorem d_W_join_11 : decode b_W_join 11 = .ok (.istore 4, 2) := by decide +kernel
theorem d_W_join_13 : decode b_W_join 13 = .ok (.aload_n 0, 1) := by decide +kernel
theorem d_W_join_14 : decode b_W_join 14 = .ok (.getfield 15, 3) := by decide +kernel
theorem d_W_join_17 : decode b_W_join 17 = .ok (.iload_n 3, 1) := by decide +kernel
theorem d_W_join_18 : decode b_W_join 18 = .ok (.dup2, 1) := by decide +kernel
theorem d_W_join_19 : decode b_W_join 19 = .ok (.iaload, 1) := by decide +kernel
theorem d_W_join_20 : decode b_W_join 20 = .ok (.aload_n 0, 1) := by decide +kernel
theorem d_W_join_21 : decode b_W_join 21 = .ok (.getfield 15, 3) := by decide +kernel
theorem d_W_join_24 : decode b_W_join 24 = .ok (.iload 4, 2) := by decide +kernel
theorem d_W_join_26 : decode b_W_join 26 = .ok (.iaload, 1) := by decide +kernel
theorem d_W_join_27 : decode b_W_join 27 = .ok (.ior, 1) := by decide +kernel
theorem d_W_join_28 : decode b_W_join 28 = .ok (.iastore, 1) := by decide +kernel
theorem d_W_join_29 : decode b_W_join 29 = .ok (.iconst 0, 1) := by decide +kernel
theorem d_W_join_30 : decode b_W_join 30 = .ok (.istore 5, 2) := by decide +kernel
theorem d_W_join_32 : decode b_W_join 32 = .ok (.iload 5, 2) := by decide +kernel
theorem d_W_join_34 : decode b_W_join 34 = .ok (.aload_n 0, 1) := by decide +kernel
theorem d_W_join_35 : decode b_W_join 35 = .ok (.getfield 55, 3) := by decide +kernel
theorem d_W_join_38 : decode b_W_join 38 = .ok (.if_icmp .ge 29, 3) := by decide +kernel
theorem d_W_join_41 : decode b_W_join 41 = .ok (.aload_n 0, 1) := by decide +kernel
theorem d_W_join_42 : decode b_W_join 42 = .ok (.getfield 9, 3) := by decide +kernel
theorem d_W_join_45 : decode b_W_join 45 = .ok (.iload 5, 2) := by decide +kernel
theorem d_W_join_47 : decode b_W_join 47 = .ok (.iaload, 1) := by decide +kernel
theorem d_W_join_48 : decode b_W_join 48 = .ok (.iload 4, 2) := by decide +kernel
theorem d_W_join_50 : decode b_W_join 50 = .ok (.if_icmp .ne 11, 3) := by decide +kernel
theorem d_W_join_53 : decode b_W_join 53 = .ok (.aload_n 0, 1) := by decide +kernel
theorem d_W_join_54 : decode b_W_join 54 = .ok (.getfield 9, 3) := by decide +kernel
theorem d_W_join_57 : decode b_W_join 57 = .ok (.iload 5, 2) := by decide +kernel
theorem d_W_join_59 : decode b_W_join 59 = .ok (.iload_n 3, 1) := by decide +kernel
theorem d_W_join_60 : decode b_W_join 60 = .ok (.iastore, 1) := by decide +kernel
theorem d_W_join_61 : decode b_W_join 61 = .ok (.iinc 5 1, 3) := by decide +kernel
theorem d_W_join_64 : decode b_W_join 64 = .ok (.goto (-32), 3) := by decide +kernel
theorem d_W_join_67 : decode b_W_join 67 = .ok (.aload_n 0, 1) := by decide +kernel
theorem d_W_join_68 : decode b_W_join 68 = .ok (.dup, 1) := by decide +kernel
theorem d_W_join_69 : decode b_W_join 69 = .ok (.getfield 60, 3) := by decide +kernel
theorem d_W_join_72 : decode b_W_join 72 = .ok (.iconst 1, 1) := by decide +kernel
theorem d_W_join_73 : decode b_W_join 73 = .ok (.isub, 1) := by decide +kernel
theorem d_W_join_74 : decode b_W_join 74 = .ok (.putfield 60, 3) := by decide +kernel
theorem d_W_join_77 : decode b_W_join 77 = .ok (.return_, 1) := by decide +kernel
theorem d_W_peel_0 : decode b_W_peel 0 = .ok (.aload_n 0, 1) := by decide +kernel
theorem d_W_peel_1 : decode b_W_peel 1 = .ok (.aload_n 1, 1) := by decide +kernel
theorem d_W_peel_2 : decode b_W_peel 2 = .ok (.invokevirtual 114, 3) := by decide +kernel
theorem d_W_peel_5 : decode b_W_peel 5 = .ok (.aload_n 1, 1) := by decide +kernel
theorem d_W_peel_6 : decode b_W_peel 6 = .ok (.getfield 83, 3) := by decide +kernel
theorem d_W_peel_9 : decode b_W_peel 9 = .ok (.istore_n 2, 1) := by decide +kernel
theorem d_W_peel_10 : decode b_W_peel 10 = .ok (.aload_n 0, 1) := by decide +kernel
theorem d_W_peel_11 : decode b_W_peel 11 = .ok (.getfield 117, 3) := by decide +kernel
theorem d_W_peel_14 : decode b_W_peel 14 = .ok (.iconst 1, 1) := by decide +kernel
theorem d_W_peel_15 : decode b_W_peel 15 = .ok (.isub, 1) := by decide +kernel
theorem d_W_peel_16 : decode b_W_peel 16 = .ok (.istore_n 3, 1) := by decide +kernel
theorem d_W_peel_17 : decode b_W_peel 17 = .ok (.iload_n 3, 1) := by decide +kernel
theorem d_W_peel_18 : decode b_W_peel 18 = .ok (.ifCond .lt 67, 3) := by decide +kernel
theorem d_W_peel_21 : decode b_W_peel 21 = .ok (.aload_n 0, 1) := by decide +kernel
theorem d_W_peel_22 : decode b_W_peel 22 = .ok (.getfield 21, 3) := by decide +kernel
theorem d_W_peel_25 : decode b_W_peel 25 = .ok (.iload_n 3, 1) := by decide +kernel
theorem d_W_peel_26 : decode b_W_peel 26 = .ok (.iaload, 1) := by decide +kernel
theorem d_W_peel_27 : decode b_W_peel 27 = .ok (.istore 4, 2) := by decide +kernel
theorem d_W_peel_29 : decode b_W_peel 29 = .ok (.aload_n 0, 1) := by decide +kernel
theorem d_W_peel_30 : decode b_W_peel 30 = .ok (.getfield 24, 3) := by decide +kernel
theorem d_W_peel_33 : decode b_W_peel 33 = .ok (.iload 4, 2) := by decide +kernel
theorem d_W_peel_35 : decode b_W_peel 35 = .ok (.iaload, 1) := by decide +kernel
theorem d_W_peel_36 : decode b_W_peel 36 = .ok (.istore 5, 2) := by decide +kernel
theorem d_W_peel_38 : decode b_W_peel 38 = .ok (.iload 5, 2) := by decide +kernel
theorem d_W_peel_40 : decode b_W_peel 40 = .ok (.iconst (-1), 1) := by decide +kernel
theorem d_W_peel_41 : decode b_W_peel 41 = .ok (.if_icmp .eq 38, 3) := by decide +kernel
theorem d_W_peel_44 : decode b_W_peel 44 = .ok (.iload_n 2, 1) := by decide +kernel
theorem d_W_peel_45 : decode b_W_peel 45 = .ok (.iload 4, 2) := by decide +kernel
theorem d_W_peel_47 : decode b_W_peel 47 = .ok (.iushr, 1) := by decide +kernel
theorem d_W_peel_48 : decode b_W_peel 48 = .ok (.iconst 1, 1) := by decide +kernel
theorem d_W_peel_49 : decode b_W_peel 49 = .ok (.iand, 1) := by decide +kernel
theorem d_W_peel_50 : decode b_W_peel 50 = .ok (.ifCond .eq 29, 3) := by decide +kernel
theorem d_W_peel_53 : decode b_W_peel 53 = .ok (.aload_n 0, 1) := by decide +kernel
theorem d_W_peel_54 : decode b_W_peel 54 = .ok (.dup, 1) := by decide +kernel
theorem d_W_peel_55 : decode b_W_peel 55 = .ok (.getfield 67, 3) := by decide +kernel
theorem d_W_peel_58 : decode b_W_peel 58 = .ok (.lconst 1, 1) := by decide +kernel
theorem d_W_peel_59 : decode b_W_peel 59 = .ok (.iload 5, 2) := by decide +kernel
theorem d_W_peel_61 : decode b_W_peel 61 = .ok (.lshl, 1) := by decide +kernel
theorem d_W_peel_62 : decode b_W_peel 62 = .ok (.lor, 1) := by decide +kernel
theorem d_W_peel_63 : decode b_W_peel 63 = .ok (.putfield 67, 3) := by decide +kernel
theorem d_W_peel_66 : decode b_W_peel 66 = .ok (.iload_n 2, 1) := by decide +kernel
theorem d_W_peel_67 : decode b_W_peel 67 = .ok (.iconst 1, 1) := by decide +kernel
theorem d_W_peel_68 : decode b_W_peel 68 = .ok (.aload_n 1, 1) := by decide +kernel
theorem d_W_peel_69 : decode b_W_peel 69 = .ok (.iload 5, 2) := by decide +kernel
theorem d_W_peel_71 : decode b_W_peel 71 = .ok (.iload 4, 2) := by decide +kernel
theorem d_W_peel_73 : decode b_W_peel 73 = .ok (.invokestatic 120, 3) := by decide +kernel
theorem d_W_peel_76 : decode b_W_peel 76 = .ok (.ishl, 1) := by decide +kernel
theorem d_W_peel_77 : decode b_W_peel 77 = .ok (.ixor, 1) := by decide +kernel
theorem d_W_peel_78 : decode b_W_peel 78 = .ok (.istore_n 2, 1) := by decide +kernel
theorem d_W_peel_79 : decode b_W_peel 79 = .ok (.iinc 3 (-1), 3) := by decide +kernel
theorem d_W_peel_82 : decode b_W_peel 82 = .ok (.goto (-65), 3) := by decide +kernel
theorem d_W_peel_85 : decode b_W_peel 85 = .ok (.return_, 1) := by decide +kernel
theorem d_W_walkFromRoots_0 : decode b_W_walkFromRoots 0 = .ok (.aload_n 0, 1) := by decide +kernel
theorem d_W_walkFromRoots_1 : decode b_W_walkFromRoots 1 = .ok (.iconst 0, 1) := by decide +kernel
theorem d_W_walkFromRoots_2 : decode b_W_walkFromRoots 2 = .ok (.putfield 117, 3) := by decide +kernel
theorem d_W_walkFromRoots_5 : decode b_W_walkFromRoots 5 = .ok (.aload_n 0, 1) := by decide +kernel
theorem d_W_walkFromRoots_6 : decode b_W_walkFromRoots 6 = .ok (.iconst 0, 1) := by decide +kernel
theorem d_W_walkFromRoots_7 : decode b_W_walkFromRoots 7 = .ok (.putfield 124, 3) := by decide +kernel
theorem d_W_walkFromRoots_10 : decode b_W_walkFromRoots 10 = .ok (.iconst 0, 1) := by decide +kernel
theorem d_W_walkFromRoots_11 : decode b_W_walkFromRoots 11 = .ok (.istore_n 2, 1) := by decide +kernel
theorem d_W_walkFromRoots_12 : decode b_W_walkFromRoots 12 = .ok (.iload_n 2, 1) := by decide +kernel
theorem d_W_walkFromRoots_13 : decode b_W_walkFromRoots 13 = .ok (.aload_n 0, 1) := by decide +kernel
theorem d_W_walkFromRoots_14 : decode b_W_walkFromRoots 14 = .ok (.getfield 55, 3) := by decide +kernel
theorem d_W_walkFromRoots_17 : decode b_W_walkFromRoots 17 = .ok (.if_icmp .ge 30, 3) := by decide +kernel
theorem d_W_walkFromRoots_20 : decode b_W_walkFromRoots 20 = .ok (.aload_n 0, 1) := by decide +kernel
theorem d_W_walkFromRoots_21 : decode b_W_walkFromRoots 21 = .ok (.getfield 9, 3) := by decide +kernel
theorem d_W_walkFromRoots_24 : decode b_W_walkFromRoots 24 = .ok (.iload_n 2, 1) := by decide +kernel
theorem d_W_walkFromRoots_25 : decode b_W_walkFromRoots 25 = .ok (.iaload, 1) := by decide +kernel
theorem d_W_walkFromRoots_26 : decode b_W_walkFromRoots 26 = .ok (.iload_n 2, 1) := by decide +kernel
theorem d_W_walkFromRoots_27 : decode b_W_walkFromRoots 27 = .ok (.if_icmp .ne 14, 3) := by decide +kernel
theorem d_W_walkFromRoots_30 : decode b_W_walkFromRoots 30 = .ok (.aload_n 0, 1) := by decide +kernel
theorem d_W_walkFromRoots_31 : decode b_W_walkFromRoots 31 = .ok (.aload_n 0, 1) := by decide +kernel
theorem d_W_walkFromRoots_32 : decode b_W_walkFromRoots 32 = .ok (.aload_n 1, 1) := by decide +kernel
theorem d_W_walkFromRoots_33 : decode b_W_walkFromRoots 33 = .ok (.iload_n 2, 1) := by decide +kernel
theorem d_W_walkFromRoots_34 : decode b_W_walkFromRoots 34 = .ok (.invokevirtual 127, 3) := by decide +kernel
theorem d_W_walkFromRoots_37 : decode b_W_walkFromRoots 37 = .ok (.iconst (-1), 1) := by decide +kernel
theorem d_W_walkFromRoots_38 : decode b_W_walkFromRoots 38 = .ok (.invokevirtual 131, 3) := by decide +kernel
theorem d_W_walkFromRoots_41 : decode b_W_walkFromRoots 41 = .ok (.iinc 2 1, 3) := by decide +kernel
theorem d_W_walkFromRoots_44 : decode b_W_walkFromRoots 44 = .ok (.goto (-32), 3) := by decide +kernel
theorem d_W_walkFromRoots_47 : decode b_W_walkFromRoots 47 = .ok (.iconst 0, 1) := by decide +kernel
theorem d_W_walkFromRoots_48 : decode b_W_walkFromRoots 48 = .ok (.istore_n 2, 1) := by decide +kernel
theorem d_W_walkFromRoots_49 : decode b_W_walkFromRoots 49 = .ok (.iload_n 2, 1) := by decide +kernel
theorem d_W_walkFromRoots_50 : decode b_W_walkFromRoots 50 = .ok (.aload_n 0, 1) := by decide +kernel
theorem d_W_walkFromRoots_51 : decode b_W_walkFromRoots 51 = .ok (.getfield 55, 3) := by decide +kernel
theorem d_W_walkFromRoots_54 : decode b_W_walkFromRoots 54 = .ok (.if_icmp .ge 28, 3) := by decide +kernel
theorem d_W_walkFromRoots_57 : decode b_W_walkFromRoots 57 = .ok (.iload_n 2, 1) := by decide +kernel
theorem d_W_walkFromRoots_58 : decode b_W_walkFromRoots 58 = .ok (.aload_n 0, 1) := by decide +kernel
theorem d_W_walkFromRoots_59 : decode b_W_walkFromRoots 59 = .ok (.getfield 117, 3) := by decide +kernel
theorem d_W_walkFromRoots_62 : decode b_W_walkFromRoots 62 = .ok (.if_icmp .ge 20, 3) := by decide +kernel
theorem d_W_walkFromRoots_65 : decode b_W_walkFromRoots 65 = .ok (.aload_n 0, 1) := by decide +kernel
theorem d_W_walkFromRoots_66 : decode b_W_walkFromRoots 66 = .ok (.aload_n 1, 1) := by decide +kernel
theorem d_W_walkFromRoots_67 : decode b_W_walkFromRoots 67 = .ok (.aload_n 0, 1) := by decide +kernel
theorem d_W_walkFromRoots_68 : decode b_W_walkFromRoots 68 = .ok (.getfield 21, 3) := by decide +kernel
theorem d_W_walkFromRoots_71 : decode b_W_walkFromRoots 71 = .ok (.iload_n 2, 1) := by decide +kernel
theorem d_W_walkFromRoots_72 : decode b_W_walkFromRoots 72 = .ok (.iaload, 1) := by decide +kernel
theorem d_W_walkFromRoots_73 : decode b_W_walkFromRoots 73 = .ok (.invokevirtual 134, 3) := by decide +kernel
theorem d_W_walkFromRoots_76 : decode b_W_walkFromRoots 76 = .ok (.iinc 2 1, 3) := by decide +kernel
theorem d_W_walkFromRoots_79 : decode b_W_walkFromRoots 79 = .ok (.goto (-30), 3) := by decide +kernel
theorem d_W_walkFromRoots_82 : decode b_W_walkFromRoots 82 = .ok (.return_, 1) := by decide +kernel
theorem d_W_rootOf_0 : decode b_W_rootOf 0 = .ok (.aload_n 0, 1) := by decide +kernel
theorem d_W_rootOf_1 : decode b_W_rootOf 1 = .ok (.getfield 15, 3) := by decide +kernel
theorem d_W_rootOf_4 : decode b_W_rootOf 4 = .ok (.iload_n 2, 1) := by decide +kernel
theorem d_W_rootOf_5 : decode b_W_rootOf 5 = .ok (.iaload, 1) := by decide +kernel
theorem d_W_rootOf_6 : decode b_W_rootOf 6 = .ok (.aload_n 1, 1) := by decide +kernel
theorem d_W_rootOf_7 : decode b_W_rootOf 7 = .ok (.getfield 80, 3) := by decide +kernel
theorem d_W_rootOf_10 : decode b_W_rootOf 10 = .ok (.iand, 1) := by decide +kernel
theorem d_W_rootOf_11 : decode b_W_rootOf 11 = .ok (.istore_n 3, 1) := by decide +kernel
theorem d_W_rootOf_12 : decode b_W_rootOf 12 = .ok (.iload_n 3, 1) := by decide +kernel
theorem d_W_rootOf_13 : decode b_W_rootOf 13 = .ok (.ifCond .eq 10, 3) := by decide +kernel
theorem d_W_rootOf_16 : decode b_W_rootOf 16 = .ok (.iload_n 3, 1) := by decide +kernel
theorem d_W_rootOf_17 : decode b_W_rootOf 17 = .ok (.invokestatic 138, 3) := by decide +kernel
theorem d_W_rootOf_20 : decode b_W_rootOf 20 = .ok (.goto 4, 3) := by decide +kernel
theorem d_W_rootOf_23 : decode b_W_rootOf 23 = .ok (.iload_n 2, 1) := by decide +kernel
theorem d_W_rootOf_24 : decode b_W_rootOf 24 = .ok (.ireturn, 1) := by decide +kernel
theorem d_W_walkOnFrom_0 : decode b_W_walkOnFrom 0 = .ok (.iconst 0, 1) := by decide +kernel
theorem d_W_walkOnFrom_1 : decode b_W_walkOnFrom 1 = .ok (.istore_n 3, 1) := by decide +kernel
theorem d_W_walkOnFrom_2 : decode b_W_walkOnFrom 2 = .ok (.iload_n 3, 1) := by decide +kernel
theorem d_W_walkOnFrom_3 : decode b_W_walkOnFrom 3 = .ok (.aload_n 0, 1) := by decide +kernel
theorem d_W_walkOnFrom_4 : decode b_W_walkOnFrom 4 = .ok (.getfield 59, 3) := by decide +kernel
theorem d_W_walkOnFrom_7 : decode b_W_walkOnFrom 7 = .ok (.if_icmp .ge 65, 3) := by decide +kernel
theorem d_W_walkOnFrom_10 : decode b_W_walkOnFrom 10 = .ok (.aload_n 1, 1) := by decide +kernel
theorem d_W_walkOnFrom_11 : decode b_W_walkOnFrom 11 = .ok (.getfield 92, 3) := by decide +kernel
theorem d_W_walkOnFrom_14 : decode b_W_walkOnFrom 14 = .ok (.iload_n 3, 1) := by decide +kernel
theorem d_W_walkOnFrom_15 : decode b_W_walkOnFrom 15 = .ok (.iaload, 1) := by decide +kernel
theorem d_W_walkOnFrom_16 : decode b_W_walkOnFrom 16 = .ok (.iload_n 2, 1) := by decide +kernel
theorem d_W_walkOnFrom_17 : decode b_W_walkOnFrom 17 = .ok (.if_icmp .eq 13, 3) := by decide +kernel
theorem d_W_walkOnFrom_20 : decode b_W_walkOnFrom 20 = .ok (.aload_n 1, 1) := by decide +kernel
theorem d_W_walkOnFrom_21 : decode b_W_walkOnFrom 21 = .ok (.getfield 95, 3) := by decide +kernel
theorem d_W_walkOnFrom_24 : decode b_W_walkOnFrom 24 = .ok (.iload_n 3, 1) := by decide +kernel
theorem d_W_walkOnFrom_25 : decode b_W_walkOnFrom 25 = .ok (.iaload, 1) := by decide +kernel
theorem d_W_walkOnFrom_26 : decode b_W_walkOnFrom 26 = .ok (.iload_n 2, 1) := by decide +kernel
theorem d_W_walkOnFrom_27 : decode b_W_walkOnFrom 27 = .ok (.if_icmp .ne 7, 3) := by decide +kernel
theorem d_W_walkOnFrom_30 : decode b_W_walkOnFrom 30 = .ok (.iconst 1, 1) := by decide +kernel
theorem d_W_walkOnFrom_31 : decode b_W_walkOnFrom 31 = .ok (.goto 4, 3) := by decide +kernel
theorem d_W_walkOnFrom_34 : decode b_W_walkOnFrom 34 = .ok (.iconst 0, 1) := by decide +kernel
theorem d_W_walkOnFrom_35 : decode b_W_walkOnFrom 35 = .ok (.istore 4, 2) := by decide +kernel
theorem d_W_walkOnFrom_37 : decode b_W_walkOnFrom 37 = .ok (.iload 4, 2) := by decide +kernel
theorem d_W_walkOnFrom_39 : decode b_W_walkOnFrom 39 = .ok (.ifCond .eq 27, 3) := by decide +kernel
theorem d_W_walkOnFrom_42 : decode b_W_walkOnFrom 42 = .ok (.aload_n 0, 1) := by decide +kernel
theorem d_W_walkOnFrom_43 : decode b_W_walkOnFrom 43 = .ok (.getfield 63, 3) := by decide +kernel
theorem d_W_walkOnFrom_46 : decode b_W_walkOnFrom 46 = .ok (.iload_n 3, 1) := by decide +kernel
theorem d_W_walkOnFrom_47 : decode b_W_walkOnFrom 47 = .ok (.lushr, 1) := by decide +kernel
theorem d_W_walkOnFrom_48 : decode b_W_walkOnFrom 48 = .ok (.lconst 1, 1) := by decide +kernel
theorem d_W_walkOnFrom_49 : decode b_W_walkOnFrom 49 = .ok (.land, 1) := by decide +kernel
theorem d_W_walkOnFrom_50 : decode b_W_walkOnFrom 50 = .ok (.lconst 0, 1) := by decide +kernel
theorem d_W_walkOnFrom_51 : decode b_W_walkOnFrom 51 = .ok (.lcmp, 1) := by decide +kernel
theorem d_W_walkOnFrom_52 : decode b_W_walkOnFrom 52 = .ok (.ifCond .eq 14, 3) := by decide +kernel
theorem d_W_walkOnFrom_55 : decode b_W_walkOnFrom 55 = .ok (.aload_n 0, 1) := by decide +kernel
theorem d_W_walkOnFrom_56 : decode b_W_walkOnFrom 56 = .ok (.aload_n 1, 1) := by decide +kernel
theorem d_W_walkOnFrom_57 : decode b_W_walkOnFrom 57 = .ok (.iload_n 3, 1) := by decide +kernel
theorem d_W_walkOnFrom_58 : decode b_W_walkOnFrom 58 = .ok (.iload_n 2, 1) := by decide +kernel
theorem d_W_walkOnFrom_59 : decode b_W_walkOnFrom 59 = .ok (.invokestatic 120, 3) := by decide +kernel
theorem d_W_walkOnFrom_62 : decode b_W_walkOnFrom 62 = .ok (.iload_n 3, 1) := by decide +kernel
theorem d_W_walkOnFrom_63 : decode b_W_walkOnFrom 63 = .ok (.invokevirtual 131, 3) := by decide +kernel
theorem d_W_walkOnFrom_66 : decode b_W_walkOnFrom 66 = .ok (.iinc 3 1, 3) := by decide +kernel
theorem d_W_walkOnFrom_69 : decode b_W_walkOnFrom 69 = .ok (.goto (-67), 3) := by decide +kernel
theorem d_W_walkOnFrom_72 : decode b_W_walkOnFrom 72 = .ok (.return_, 1) := by decide +kernel
theorem d_W_reach_0 : decode b_W_reach 0 = .ok (.aload_n 0, 1) := by decide +kernel
theorem d_W_reach_1 : decode b_W_reach 1 = .ok (.getfield 124, 3) := by decide +kernel
theorem d_W_reach_4 : decode b_W_reach 4 = .ok (.iload_n 1, 1) := by decide +kernel
theorem d_W_reach_5 : decode b_W_reach 5 = .ok (.iushr, 1) := by decide +kernel
theorem d_W_reach_6 : decode b_W_reach 6 = .ok (.iconst 1, 1) := by decide +kernel
theorem d_W_reach_7 : decode b_W_reach 7 = .ok (.iand, 1) := by decide +kernel
theorem d_W_reach_8 : decode b_W_reach 8 = .ok (.ifCond .eq 4, 3) := by decide +kernel
theorem d_W_reach_11 : decode b_W_reach 11 = .ok (.return_, 1) := by decide +kernel
theorem d_W_reach_12 : decode b_W_reach 12 = .ok (.aload_n 0, 1) := by decide +kernel
theorem d_W_reach_13 : decode b_W_reach 13 = .ok (.dup, 1) := by decide +kernel
theorem d_W_reach_14 : decode b_W_reach 14 = .ok (.getfield 124, 3) := by decide +kernel
theorem d_W_reach_17 : decode b_W_reach 17 = .ok (.iconst 1, 1) := by decide +kernel
theorem d_W_reach_18 : decode b_W_reach 18 = .ok (.iload_n 1, 1) := by decide +kernel
theorem d_W_reach_19 : decode b_W_reach 19 = .ok (.ishl, 1) := by decide +kernel
theorem d_W_reach_20 : decode b_W_reach 20 = .ok (.ior, 1) := by decide +kernel
theorem d_W_reach_21 : decode b_W_reach 21 = .ok (.putfield 124, 3) := by decide +kernel
theorem d_W_reach_24 : decode b_W_reach 24 = .ok (.aload_n 0, 1) := by decide +kernel
theorem d_W_reach_25 : decode b_W_reach 25 = .ok (.getfield 24, 3) := by decide +kernel
theorem d_W_reach_28 : decode b_W_reach 28 = .ok (.iload_n 1, 1) := by decide +kernel
theorem d_W_reach_29 : decode b_W_reach 29 = .ok (.iload_n 2, 1) := by decide +kernel
theorem d_W_reach_30 : decode b_W_reach 30 = .ok (.iastore, 1) := by decide +kernel
theorem d_W_reach_31 : decode b_W_reach 31 = .ok (.aload_n 0, 1) := by decide +kernel
theorem d_W_reach_32 : decode b_W_reach 32 = .ok (.getfield 21, 3) := by decide +kernel
theorem d_W_reach_35 : decode b_W_reach 35 = .ok (.aload_n 0, 1) := by decide +kernel
theorem d_W_reach_36 : decode b_W_reach 36 = .ok (.getfield 117, 3) := by decide +kernel
theorem d_W_reach_39 : decode b_W_reach 39 = .ok (.iload_n 1, 1) := by decide +kernel
theorem d_W_reach_40 : decode b_W_reach 40 = .ok (.iastore, 1) := by decide +kernel
theorem d_W_reach_41 : decode b_W_reach 41 = .ok (.aload_n 0, 1) := by decide +kernel
theorem d_W_reach_42 : decode b_W_reach 42 = .ok (.dup, 1) := by decide +kernel
theorem d_W_reach_43 : decode b_W_reach 43 = .ok (.getfield 117, 3) := by decide +kernel
theorem d_W_reach_46 : decode b_W_reach 46 = .ok (.iconst 1, 1) := by decide +kernel
theorem d_W_reach_47 : decode b_W_reach 47 = .ok (.iadd, 1) := by decide +kernel
theorem d_W_reach_48 : decode b_W_reach 48 = .ok (.putfield 117, 3) := by decide +kernel
theorem d_W_reach_51 : decode b_W_reach 51 = .ok (.return_, 1) := by decide +kernel
theorem d_W_otherEnd_0 : decode b_W_otherEnd 0 = .ok (.aload_n 0, 1) := by decide +kernel
theorem d_W_otherEnd_1 : decode b_W_otherEnd 1 = .ok (.getfield 92, 3) := by decide +kernel
theorem d_W_otherEnd_4 : decode b_W_otherEnd 4 = .ok (.iload_n 1, 1) := by decide +kernel
theorem d_W_otherEnd_5 : decode b_W_otherEnd 5 = .ok (.iaload, 1) := by decide +kernel
theorem d_W_otherEnd_6 : decode b_W_otherEnd 6 = .ok (.iload_n 2, 1) := by decide +kernel
theorem d_W_otherEnd_7 : decode b_W_otherEnd 7 = .ok (.if_icmp .ne 12, 3) := by decide +kernel
theorem d_W_otherEnd_10 : decode b_W_otherEnd 10 = .ok (.aload_n 0, 1) := by decide +kernel
theorem d_W_otherEnd_11 : decode b_W_otherEnd 11 = .ok (.getfield 95, 3) := by decide +kernel
theorem d_W_otherEnd_14 : decode b_W_otherEnd 14 = .ok (.iload_n 1, 1) := by decide +kernel
theorem d_W_otherEnd_15 : decode b_W_otherEnd 15 = .ok (.iaload, 1) := by decide +kernel
theorem d_W_otherEnd_16 : decode b_W_otherEnd 16 = .ok (.goto 9, 3) := by decide +kernel
theorem d_W_otherEnd_19 : decode b_W_otherEnd 19 = .ok (.aload_n 0, 1) := by decide +kernel
theorem d_W_otherEnd_20 : decode b_W_otherEnd 20 = .ok (.getfield 92, 3) := by decide +kernel
theorem d_W_otherEnd_23 : decode b_W_otherEnd 23 = .ok (.iload_n 1, 1) := by decide +kernel
theorem d_W_otherEnd_24 : decode b_W_otherEnd 24 = .ok (.iaload, 1) := by decide +kernel
theorem d_W_otherEnd_25 : decode b_W_otherEnd 25 = .ok (.ireturn, 1) := by decide +kernel
