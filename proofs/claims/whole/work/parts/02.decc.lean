theorem d_M_init_0 : decode b_M_init 0 = .ok (.aload_n 0, 1) := by decide +kernel
theorem d_M_init_1 : decode b_M_init 1 = .ok (.invokespecial 1, 3) := by decide +kernel
theorem d_M_init_4 : decode b_M_init 4 = .ok (.aload_n 0, 1) := by decide +kernel
theorem d_M_init_5 : decode b_M_init 5 = .ok (.bipush 30, 2) := by decide +kernel
theorem d_M_init_7 : decode b_M_init 7 = .ok (.newarray .boolean, 2) := by decide +kernel
theorem d_M_init_9 : decode b_M_init 9 = .ok (.putfield 7, 3) := by decide +kernel
theorem d_M_init_12 : decode b_M_init 12 = .ok (.aload_n 0, 1) := by decide +kernel
theorem d_M_init_13 : decode b_M_init 13 = .ok (.bipush 120, 2) := by decide +kernel
theorem d_M_init_15 : decode b_M_init 15 = .ok (.newarray .int, 2) := by decide +kernel
theorem d_M_init_17 : decode b_M_init 17 = .ok (.putfield 13, 3) := by decide +kernel
theorem d_M_init_20 : decode b_M_init 20 = .ok (.aload_n 0, 1) := by decide +kernel
theorem d_M_init_21 : decode b_M_init 21 = .ok (.bipush 60, 2) := by decide +kernel
theorem d_M_init_23 : decode b_M_init 23 = .ok (.newarray .int, 2) := by decide +kernel
theorem d_M_init_25 : decode b_M_init 25 = .ok (.putfield 17, 3) := by decide +kernel
theorem d_M_init_28 : decode b_M_init 28 = .ok (.aload_n 0, 1) := by decide +kernel
theorem d_M_init_29 : decode b_M_init 29 = .ok (.bipush 30, 2) := by decide +kernel
theorem d_M_init_31 : decode b_M_init 31 = .ok (.newarray .int, 2) := by decide +kernel
theorem d_M_init_33 : decode b_M_init 33 = .ok (.putfield 20, 3) := by decide +kernel
theorem d_M_init_36 : decode b_M_init 36 = .ok (.aload_n 0, 1) := by decide +kernel
theorem d_M_init_37 : decode b_M_init 37 = .ok (.bipush 60, 2) := by decide +kernel
theorem d_M_init_39 : decode b_M_init 39 = .ok (.newarray .int, 2) := by decide +kernel
theorem d_M_init_41 : decode b_M_init 41 = .ok (.putfield 23, 3) := by decide +kernel
theorem d_M_init_44 : decode b_M_init 44 = .ok (.aload_n 0, 1) := by decide +kernel
theorem d_M_init_45 : decode b_M_init 45 = .ok (.bipush 30, 2) := by decide +kernel
theorem d_M_init_47 : decode b_M_init 47 = .ok (.newarray .boolean, 2) := by decide +kernel
theorem d_M_init_49 : decode b_M_init 49 = .ok (.putfield 26, 3) := by decide +kernel
theorem d_M_init_52 : decode b_M_init 52 = .ok (.aload_n 0, 1) := by decide +kernel
theorem d_M_init_53 : decode b_M_init 53 = .ok (.bipush 60, 2) := by decide +kernel
theorem d_M_init_55 : decode b_M_init 55 = .ok (.newarray .boolean, 2) := by decide +kernel
theorem d_M_init_57 : decode b_M_init 57 = .ok (.putfield 29, 3) := by decide +kernel
theorem d_M_init_60 : decode b_M_init 60 = .ok (.aload_n 0, 1) := by decide +kernel
theorem d_M_init_61 : decode b_M_init 61 = .ok (.bipush 30, 2) := by decide +kernel
theorem d_M_init_63 : decode b_M_init 63 = .ok (.newarray .boolean, 2) := by decide +kernel
theorem d_M_init_65 : decode b_M_init 65 = .ok (.putfield 32, 3) := by decide +kernel
theorem d_M_init_68 : decode b_M_init 68 = .ok (.aload_n 0, 1) := by decide +kernel
theorem d_M_init_69 : decode b_M_init 69 = .ok (.bipush 120, 2) := by decide +kernel
theorem d_M_init_71 : decode b_M_init 71 = .ok (.newarray .int, 2) := by decide +kernel
theorem d_M_init_73 : decode b_M_init 73 = .ok (.putfield 35, 3) := by decide +kernel
theorem d_M_init_76 : decode b_M_init 76 = .ok (.aload_n 0, 1) := by decide +kernel
theorem d_M_init_77 : decode b_M_init 77 = .ok (.bipush 120, 2) := by decide +kernel
theorem d_M_init_79 : decode b_M_init 79 = .ok (.newarray .int, 2) := by decide +kernel
theorem d_M_init_81 : decode b_M_init 81 = .ok (.putfield 38, 3) := by decide +kernel
theorem d_M_init_84 : decode b_M_init 84 = .ok (.aload_n 0, 1) := by decide +kernel
theorem d_M_init_85 : decode b_M_init 85 = .ok (.bipush 30, 2) := by decide +kernel
theorem d_M_init_87 : decode b_M_init 87 = .ok (.newarray .int, 2) := by decide +kernel
theorem d_M_init_89 : decode b_M_init 89 = .ok (.putfield 41, 3) := by decide +kernel
theorem d_M_init_92 : decode b_M_init 92 = .ok (.aload_n 0, 1) := by decide +kernel
theorem d_M_init_93 : decode b_M_init 93 = .ok (.bipush 30, 2) := by decide +kernel
theorem d_M_init_95 : decode b_M_init 95 = .ok (.newarray .long, 2) := by decide +kernel
theorem d_M_init_97 : decode b_M_init 97 = .ok (.putfield 44, 3) := by decide +kernel
theorem d_M_init_100 : decode b_M_init 100 = .ok (.aload_n 0, 1) := by decide +kernel
theorem d_M_init_101 : decode b_M_init 101 = .ok (.bipush 60, 2) := by decide +kernel
theorem d_M_init_103 : decode b_M_init 103 = .ok (.newarray .boolean, 2) := by decide +kernel
theorem d_M_init_105 : decode b_M_init 105 = .ok (.putfield 48, 3) := by decide +kernel
theorem d_M_init_108 : decode b_M_init 108 = .ok (.return_, 1) := by decide +kernel
theorem d_M_thrown_0 : decode b_M_thrown 0 = .ok (.aload_n 0, 1) := by decide +kernel
theorem d_M_thrown_1 : decode b_M_thrown 1 = .ok (.getfield 51, 3) := by decide +kernel
theorem d_M_thrown_4 : decode b_M_thrown 4 = .ok (.ireturn, 1) := by decide +kernel
theorem d_M_raise_0 : decode b_M_raise 0 = .ok (.aload_n 0, 1) := by decide +kernel
theorem d_M_raise_1 : decode b_M_raise 1 = .ok (.iload_n 1, 1) := by decide +kernel
theorem d_M_raise_2 : decode b_M_raise 2 = .ok (.putfield 51, 3) := by decide +kernel
theorem d_M_raise_5 : decode b_M_raise 5 = .ok (.iconst 0, 1) := by decide +kernel
theorem d_M_raise_6 : decode b_M_raise 6 = .ok (.ireturn, 1) := by decide +kernel
theorem d_M_isPoint_0 : decode b_M_isPoint 0 = .ok (.iload_n 1, 1) := by decide +kernel
theorem d_M_isPoint_1 : decode b_M_isPoint 1 = .ok (.ifCond .lt 15, 3) := by decide +kernel
theorem d_M_isPoint_4 : decode b_M_isPoint 4 = .ok (.iload_n 1, 1) := by decide +kernel
theorem d_M_isPoint_5 : decode b_M_isPoint 5 = .ok (.aload_n 0, 1) := by decide +kernel
theorem d_M_isPoint_6 : decode b_M_isPoint 6 = .ok (.getfield 55, 3) := by decide +kernel
theorem d_M_isPoint_9 : decode b_M_isPoint 9 = .ok (.if_icmp .ge 7, 3) := by decide +kernel
theorem d_M_isPoint_12 : decode b_M_isPoint 12 = .ok (.iconst 1, 1) := by decide +kernel
theorem d_M_isPoint_13 : decode b_M_isPoint 13 = .ok (.goto 4, 3) := by decide +kernel
theorem d_M_isPoint_16 : decode b_M_isPoint 16 = .ok (.iconst 0, 1) := by decide +kernel
theorem d_M_isPoint_17 : decode b_M_isPoint 17 = .ok (.ireturn, 1) := by decide +kernel
theorem d_M_isEdge_0 : decode b_M_isEdge 0 = .ok (.iload_n 1, 1) := by decide +kernel
theorem d_M_isEdge_1 : decode b_M_isEdge 1 = .ok (.ifCond .lt 15, 3) := by decide +kernel
theorem d_M_isEdge_4 : decode b_M_isEdge 4 = .ok (.iload_n 1, 1) := by decide +kernel
theorem d_M_isEdge_5 : decode b_M_isEdge 5 = .ok (.aload_n 0, 1) := by decide +kernel
theorem d_M_isEdge_6 : decode b_M_isEdge 6 = .ok (.getfield 58, 3) := by decide +kernel
theorem d_M_isEdge_9 : decode b_M_isEdge 9 = .ok (.if_icmp .ge 7, 3) := by decide +kernel
theorem d_M_isEdge_12 : decode b_M_isEdge 12 = .ok (.iconst 1, 1) := by decide +kernel
theorem d_M_isEdge_13 : decode b_M_isEdge 13 = .ok (.goto 4, 3) := by decide +kernel
theorem d_M_isEdge_16 : decode b_M_isEdge 16 = .ok (.iconst 0, 1) := by decide +kernel
theorem d_M_isEdge_17 : decode b_M_isEdge 17 = .ok (.ireturn, 1) := by decide +kernel
theorem d_M_point_0 : decode b_M_point 0 = .ok (.aload_n 0, 1) := by decide +kernel
theorem d_M_point_1 : decode b_M_point 1 = .ok (.iconst 0, 1) := by decide +kernel
theorem d_M_point_2 : decode b_M_point 2 = .ok (.putfield 51, 3) := by decide +kernel
theorem d_M_point_5 : decode b_M_point 5 = .ok (.aload_n 0, 1) := by decide +kernel
theorem d_M_point_6 : decode b_M_point 6 = .ok (.getfield 55, 3) := by decide +kernel
theorem d_M_point_9 : decode b_M_point 9 = .ok (.bipush 30, 2) := by decide +kernel
theorem d_M_point_11 : decode b_M_point 11 = .ok (.if_icmp .ne 5, 3) := by decide +kernel
theorem d_M_point_14 : decode b_M_point 14 = .ok (.iconst (-1), 1) := by decide +kernel
theorem d_M_point_15 : decode b_M_point 15 = .ok (.ireturn, 1) := by decide +kernel
theorem d_M_point_16 : decode b_M_point 16 = .ok (.aload_n 0, 1) := by decide +kernel
theorem d_M_point_17 : decode b_M_point 17 = .ok (.getfield 7, 3) := by decide +kernel
theorem d_M_point_20 : decode b_M_point 20 = .ok (.aload_n 0, 1) := by decide +kernel
theorem d_M_point_21 : decode b_M_point 21 = .ok (.getfield 55, 3) := by decide +kernel
theorem d_M_point_24 : decode b_M_point 24 = .ok (.iload_n 1, 1) := by decide +kernel
theorem d_M_point_25 : decode b_M_point 25 = .ok (.bastore, 1) := by decide +kernel
theorem d_M_point_26 : decode b_M_point 26 = .ok (.aload_n 0, 1) := by decide +kernel
theorem d_M_point_27 : decode b_M_point 27 = .ok (.dup, 1) := by decide +kernel
theorem d_M_point_28 : decode b_M_point 28 = .ok (.getfield 55, 3) := by decide +kernel
theorem d_M_point_31 : decode b_M_point 31 = .ok (.iconst 1, 1) := by decide +kernel
theorem d_M_point_32 : decode b_M_point 32 = .ok (.iadd, 1) := by decide +kernel
theorem d_M_point_33 : decode b_M_point 33 = .ok (.putfield 55, 3) := by decide +kernel
theorem d_M_point_36 : decode b_M_point 36 = .ok (.aload_n 0, 1) := by decide +kernel
theorem d_M_point_37 : decode b_M_point 37 = .ok (.iconst 0, 1) := by decide +kernel
theorem d_M_point_38 : decode b_M_point 38 = .ok (.putfield 61, 3) := by decide +kernel
theorem d_M_point_41 : decode b_M_point 41 = .ok (.aload_n 0, 1) := by decide +kernel
theorem d_M_point_42 : decode b_M_point 42 = .ok (.getfield 55, 3) := by decide +kernel
theorem d_M_point_45 : decode b_M_point 45 = .ok (.iconst 1, 1) := by decide +kernel
theorem d_M_point_46 : decode b_M_point 46 = .ok (.isub, 1) := by decide +kernel
theorem d_M_point_47 : decode b_M_point 47 = .ok (.ireturn, 1) := by decide +kernel
theorem d_M_edge_0 : decode b_M_edge 0 = .ok (.aload_n 0, 1) := by decide +kernel
theorem d_M_edge_1 : decode b_M_edge 1 = .ok (.iconst 0, 1) := by decide +kernel
theorem d_M_edge_2 : decode b_M_edge 2 = .ok (.putfield 51, 3) := by decide +kernel
theorem d_M_edge_5 : decode b_M_edge 5 = .ok (.aload_n 0, 1) := by decide +kernel
theorem d_M_edge_6 : decode b_M_edge 6 = .ok (.iload_n 1, 1) := by decide +kernel
theorem d_M_edge_7 : decode b_M_edge 7 = .ok (.invokevirtual 65, 3) := by decide +kernel
theorem d_M_edge_10 : decode b_M_edge 10 = .ok (.ifCond .eq 54, 3) := by decide +kernel
theorem d_M_edge_13 : decode b_M_edge 13 = .ok (.aload_n 0, 1) := by decide +kernel
theorem d_M_edge_14 : decode b_M_edge 14 = .ok (.iload_n 2, 1) := by decide +kernel
theorem d_M_edge_15 : decode b_M_edge 15 = .ok (.invokevirtual 65, 3) := by decide +kernel
theorem d_M_edge_18 : decode b_M_edge 18 = .ok (.ifCond .eq 46, 3) := by decide +kernel
theorem d_M_edge_21 : decode b_M_edge 21 = .ok (.iload_n 1, 1) := by decide +kernel
theorem d_M_edge_22 : decode b_M_edge 22 = .ok (.iload_n 2, 1) := by decide +kernel
theorem d_M_edge_23 : decode b_M_edge 23 = .ok (.if_icmp .eq 41, 3) := by decide +kernel
theorem d_M_edge_26 : decode b_M_edge 26 = .ok (.aload_n 0, 1) := by decide +kernel
theorem d_M_edge_27 : decode b_M_edge 27 = .ok (.getfield 7, 3) := by decide +kernel
theorem d_M_edge_30 : decode b_M_edge 30 = .ok (.iload_n 1, 1) := by decide +kernel
theorem d_M_edge_31 : decode b_M_edge 31 = .ok (.baload, 1) := by decide +kernel
theorem d_M_edge_32 : decode b_M_edge 32 = .ok (.ifCond .eq 12, 3) := by decide +kernel
theorem d_M_edge_35 : decode b_M_edge 35 = .ok (.aload_n 0, 1) := by decide +kernel
theorem d_M_edge_36 : decode b_M_edge 36 = .ok (.getfield 7, 3) := by decide +kernel
theorem d_M_edge_39 : decode b_M_edge 39 = .ok (.iload_n 2, 1) := by decide +kernel
theorem d_M_edge_40 : decode b_M_edge 40 = .ok (.baload, 1) := by decide +kernel
theorem d_M_edge_41 : decode b_M_edge 41 = .ok (.ifCond .ne 23, 3) := by decide +kernel
theorem d_M_edge_44 : decode b_M_edge 44 = .ok (.iload_n 3, 1) := by decide +kernel
theorem d_M_edge_45 : decode b_M_edge 45 = .ok (.iconst 1, 1) := by decide +kernel
theorem d_M_edge_46 : decode b_M_edge 46 = .ok (.if_icmp .lt 18, 3) := by decide +kernel
theorem d_M_edge_49 : decode b_M_edge 49 = .ok (.iload_n 3, 1) := by decide +kernel
theorem d_M_edge_50 : decode b_M_edge 50 = .ok (.bipush 20, 2) := by decide +kernel
theorem d_M_edge_52 : decode b_M_edge 52 = .ok (.if_icmp .gt 12, 3) := by decide +kernel
theorem d_M_edge_55 : decode b_M_edge 55 = .ok (.aload_n 0, 1) := by decide +kernel
theorem d_M_edge_56 : decode b_M_edge 56 = .ok (.getfield 58, 3) := by decide +kernel
theorem d_M_edge_59 : decode b_M_edge 59 = .ok (.bipush 60, 2) := by decide +kernel
theorem d_M_edge_61 : decode b_M_edge 61 = .ok (.if_icmp .ne 5, 3) := by decide +kernel
theorem d_M_edge_64 : decode b_M_edge 64 = .ok (.iconst (-1), 1) := by decide +kernel
theorem d_M_edge_65 : decode b_M_edge 65 = .ok (.ireturn, 1) := by decide +kernel
theorem d_M_edge_66 : decode b_M_edge 66 = .ok (.aload_n 0, 1) := by decide +kernel
theorem d_M_edge_67 : decode b_M_edge 67 = .ok (.getfield 13, 3) := by decide +kernel
theorem d_M_edge_70 : decode b_M_edge 70 = .ok (.iconst 2, 1) := by decide +kernel
theorem d_M_edge_71 : decode b_M_edge 71 = .ok (.aload_n 0, 1) := by decide +kernel
theorem d_M_edge_72 : decode b_M_edge 72 = .ok (.getfield 58, 3) := by decide +kernel
theorem d_M_edge_75 : decode b_M_edge 75 = .ok (.imul, 1) := by decide +kernel
theorem d_M_edge_76 : decode b_M_edge 76 = .ok (.iload_n 1, 1) := by decide +kernel
theorem d_M_edge_77 : decode b_M_edge 77 = .ok (.iastore, 1) := by decide +kernel
theorem d_M_edge_78 : decode b_M_edge 78 = .ok (.aload_n 0, 1) := by decide +kernel
theorem d_M_edge_79 : decode b_M_edge 79 = .ok (.getfield 13, 3) := by decide +kernel
theorem d_M_edge_82 : decode b_M_edge 82 = .ok (.iconst 2, 1) := by decide +kernel
theorem d_M_edge_83 : decode b_M_edge 83 = .ok (.aload_n 0, 1) := by decide +kernel
theorem d_M_edge_84 : decode b_M_edge 84 = .ok (.getfield 58, 3) := by decide +kernel
theorem d_M_edge_87 : decode b_M_edge 87 = .ok (.imul, 1) := by decide +kernel
theorem d_M_edge_88 : decode b_M_edge 88 = .ok (.iconst 1, 1) := by decide +kernel
theorem d_M_edge_89 : decode b_M_edge 89 = .ok (.iadd, 1) := by decide +kernel
theorem d_M_edge_90 : decode b_M_edge 90 = .ok (.iload_n 2, 1) := by decide +kernel
theorem d_M_edge_91 : decode b_M_edge 91 = .ok (.iastore, 1) := by decide +kernel
theorem d_M_edge_92 : decode b_M_edge 92 = .ok (.aload_n 0, 1) := by decide +kernel
theorem d_M_edge_93 : decode b_M_edge 93 = .ok (.getfield 17, 3) := by decide +kernel
theorem d_M_edge_96 : decode b_M_edge 96 = .ok (.aload_n 0, 1) := by decide +kernel
theorem d_M_edge_97 : decode b_M_edge 97 = .ok (.getfield 58, 3) := by decide +kernel
theorem d_M_edge_100 : decode b_M_edge 100 = .ok (.iload_n 3, 1) := by decide +kernel
theorem d_M_edge_101 : decode b_M_edge 101 = .ok (.iastore, 1) := by decide +kernel
theorem d_M_edge_102 : decode b_M_edge 102 = .ok (.aload_n 0, 1) := by decide +kernel
theorem d_M_edge_103 : decode b_M_edge 103 = .ok (.dup, 1) := by decide +kernel
theorem d_M_edge_104 : decode b_M_edge 104 = .ok (.getfield 58, 3) := by decide +kernel
theorem d_M_edge_107 : decode b_M_edge 107 = .ok (.iconst 1, 1) := by decide +kernel
theorem d_M_edge_108 : decode b_M_edge 108 = .ok (.iadd, 1) := by decide +kernel
theorem d_M_edge_109 : decode b_M_edge 109 = .ok (.putfield 58, 3) := by decide +kernel
theorem d_M_edge_112 : decode b_M_edge 112 = .ok (.aload_n 0, 1) := by decide +kernel
theorem d_M_edge_113 : decode b_M_edge 113 = .ok (.iconst 0, 1) := by decide +kernel
theorem d_M_edge_114 : decode b_M_edge 114 = .ok (.putfield 61, 3) := by decide +kernel
theorem d_M_edge_117 : decode b_M_edge 117 = .ok (.aload_n 0, 1) := by decide +kernel
theorem d_M_edge_118 : decode b_M_edge 118 = .ok (.getfield 58, 3) := by decide +kernel
theorem d_M_edge_121 : decode b_M_edge 121 = .ok (.iconst 1, 1) := by decide +kernel
theorem d_M_edge_122 : decode b_M_edge 122 = .ok (.isub, 1) := by decide +kernel
theorem d_M_edge_123 : decode b_M_edge 123 = .ok (.ireturn, 1) := by decide +kernel
theorem d_M_fire_0 : decode b_M_fire 0 = .ok (.aload_n 0, 1) := by decide +kernel
theorem d_M_fire_1 : decode b_M_fire 1 = .ok (.iconst 0, 1) := by decide +kernel
theorem d_M_fire_2 : decode b_M_fire 2 = .ok (.putfield 51, 3) := by decide +kernel
theorem d_M_fire_5 : decode b_M_fire 5 = .ok (.aload_n 0, 1) := by decide +kernel
theorem d_M_fire_6 : decode b_M_fire 6 = .ok (.iload_n 1, 1) := by decide +kernel
theorem d_M_fire_7 : decode b_M_fire 7 = .ok (.invokevirtual 65, 3) := by decide +kernel
theorem d_M_fire_10 : decode b_M_fire 10 = .ok (.ifCond .eq 32, 3) := by decide +kernel
theorem d_M_fire_13 : decode b_M_fire 13 = .ok (.aload_n 0, 1) := by decide +kernel
theorem d_M_fire_14 : decode b_M_fire 14 = .ok (.getfield 7, 3) := by decide +kernel
theorem d_M_fire_17 : decode b_M_fire 17 = .ok (.iload_n 1, 1) := by decide +kernel
theorem d_M_fire_18 : decode b_M_fire 18 = .ok (.baload, 1) := by decide +kernel
theorem d_M_fire_19 : decode b_M_fire 19 = .ok (.ifCond .ne 23, 3) := by decide +kernel
theorem d_M_fire_22 : decode b_M_fire 22 = .ok (.aload_n 0, 1) := by decide +kernel
theorem d_M_fire_23 : decode b_M_fire 23 = .ok (.getfield 69, 3) := by decide +kernel
theorem d_M_fire_26 : decode b_M_fire 26 = .ok (.iload_n 1, 1) := by decide +kernel
theorem d_M_fire_27 : decode b_M_fire 27 = .ok (.ishr, 1) := by decide +kernel
theorem d_M_fire_28 : decode b_M_fire 28 = .ok (.iconst 1, 1) := by decide +kernel
theorem d_M_fire_29 : decode b_M_fire 29 = .ok (.iand, 1) := by decide +kernel
theorem d_M_fire_30 : decode b_M_fire 30 = .ok (.iload_n 2, 1) := by decide +kernel
theorem d_M_fire_31 : decode b_M_fire 31 = .ok (.ifCond .eq 7, 3) := by decide +kernel
theorem d_M_fire_34 : decode b_M_fire 34 = .ok (.iconst 1, 1) := by decide +kernel
theorem d_M_fire_35 : decode b_M_fire 35 = .ok (.goto 4, 3) := by decide +kernel
theorem d_M_fire_38 : decode b_M_fire 38 = .ok (.iconst 0, 1) := by decide +kernel
theorem d_M_fire_39 : decode b_M_fire 39 = .ok (.if_icmp .ne 5, 3) := by decide +kernel
theorem d_M_fire_42 : decode b_M_fire 42 = .ok (.iconst 0, 1) := by decide +kernel
theorem d_M_fire_43 : decode b_M_fire 43 = .ok (.ireturn, 1) := by decide +kernel
theorem d_M_fire_44 : decode b_M_fire 44 = .ok (.aload_n 0, 1) := by decide +kernel
theorem d_M_fire_45 : decode b_M_fire 45 = .ok (.dup, 1) := by decide +kernel
theorem d_M_fire_46 : decode b_M_fire 46 = .ok (.getfield 69, 3) := by decide +kernel
theorem d_M_fire_49 : decode b_M_fire 49 = .ok (.iconst 1, 1) := by decide +kernel
theorem d_M_fire_50 : decode b_M_fire 50 = .ok (.iload_n 1, 1) := by decide +kernel
theorem d_M_fire_51 : decode b_M_fire 51 = .ok (.ishl, 1) := by decide +kernel
theorem d_M_fire_52 : decode b_M_fire 52 = .ok (.ixor, 1) := by decide +kernel
theorem d_M_fire_53 : decode b_M_fire 53 = .ok (.putfield 69, 3) := by decide +kernel
theorem d_M_fire_56 : decode b_M_fire 56 = .ok (.aload_n 0, 1) := by decide +kernel
theorem d_M_fire_57 : decode b_M_fire 57 = .ok (.iconst 0, 1) := by decide +kernel
theorem d_M_fire_58 : decode b_M_fire 58 = .ok (.putfield 61, 3) := by decide +kernel
theorem d_M_fire_61 : decode b_M_fire 61 = .ok (.iconst 1, 1) := by decide +kernel
theorem d_M_fire_62 : decode b_M_fire 62 = .ok (.ireturn, 1) := by decide +kernel
theorem d_M_findOdd_0 : decode b_M_findOdd 0 = .ok (.iconst 0, 1) := by decide +kernel
theorem d_M_findOdd_1 : decode b_M_findOdd 1 = .ok (.istore_n 1, 1) := by decide +kernel
theorem d_M_findOdd_2 : decode b_M_findOdd 2 = .ok (.iconst 0, 1) := by decide +kernel
theorem d_M_findOdd_3 : decode b_M_findOdd 3 = .ok (.istore_n 2, 1) := by decide +kernel
theorem d_M_findOdd_4 : decode b_M_findOdd 4 = .ok (.iload_n 2, 1) := by decide +kernel
theorem d_M_findOdd_5 : decode b_M_findOdd 5 = .ok (.aload_n 0, 1) := by decide +kernel
theorem d_M_findOdd_6 : decode b_M_findOdd 6 = .ok (.getfield 55, 3) := by decide +kernel
theorem d_M_findOdd_9 : decode b_M_findOdd 9 = .ok (.if_icmp .ge 152, 3) := by decide +kernel
theorem d_M_findOdd_12 : decode b_M_findOdd 12 = .ok (.iconst 0, 1) := by decide +kernel
theorem d_M_findOdd_13 : decode b_M_findOdd 13 = .ok (.istore_n 3, 1) := by decide +kernel
theorem d_M_findOdd_14 : decode b_M_findOdd 14 = .ok (.iconst 0, 1) := by decide +kernel
theorem d_M_findOdd_15 : decode b_M_findOdd 15 = .ok (.istore 4, 2) := by decide +kernel
theorem d_M_findOdd_17 : decode b_M_findOdd 17 = .ok (.iconst 0, 1) := by decide +kernel
theorem d_M_findOdd_18 : decode b_M_findOdd 18 = .ok (.istore 5, 2) := by decide +kernel
theorem d_M_findOdd_20 : decode b_M_findOdd 20 = .ok (.iload 5, 2) := by decide +kernel
theorem d_M_findOdd_22 : decode b_M_findOdd 22 = .ok (.aload_n 0, 1) := by decide +kernel
theorem d_M_findOdd_23 : decode b_M_findOdd 23 = .ok (.getfield 55, 3) := by decide +kernel
theorem d_M_findOdd_26 : decode b_M_findOdd 26 = .ok (.if_icmp .ge 57, 3) := by decide +kernel
theorem d_M_findOdd_29 : decode b_M_findOdd 29 = .ok (.aload_n 0, 1) := by decide +kernel
theorem d_M_findOdd_30 : decode b_M_findOdd 30 = .ok (.getfield 20, 3) := by decide +kernel
theorem d_M_findOdd_33 : decode b_M_findOdd 33 = .ok (.iload 5, 2) := by decide +kernel
theorem d_M_findOdd_35 : decode b_M_findOdd 35 = .ok (.iaload, 1) := by decide +kernel
theorem d_M_findOdd_36 : decode b_M_findOdd 36 = .ok (.iload_n 2, 1) := by decide +kernel
theorem d_M_findOdd_37 : decode b_M_findOdd 37 = .ok (.if_icmp .eq 6, 3) := by decide +kernel
theorem d_M_findOdd_40 : decode b_M_findOdd 40 = .ok (.goto 37, 3) := by decide +kernel
theorem d_M_findOdd_43 : decode b_M_findOdd 43 = .ok (.iload_n 3, 1) := by decide +kernel
theorem d_M_findOdd_44 : decode b_M_findOdd 44 = .ok (.aload_n 0, 1) := by decide +kernel
theorem d_M_findOdd_45 : decode b_M_findOdd 45 = .ok (.getfield 69, 3) := by decide +kernel
theorem d_M_findOdd_48 : decode b_M_findOdd 48 = .ok (.iload 5, 2) := by decide +kernel
theorem d_M_findOdd_50 : decode b_M_findOdd 50 = .ok (.ishr, 1) := by decide +kernel
theorem d_M_findOdd_51 : decode b_M_findOdd 51 = .ok (.iconst 1, 1) := by decide +kernel
theorem d_M_findOdd_52 : decode b_M_findOdd 52 = .ok (.iand, 1) := by decide +kernel
theorem d_M_findOdd_53 : decode b_M_findOdd 53 = .ok (.iadd, 1) := by decide +kernel
theorem d_M_findOdd_54 : decode b_M_findOdd 54 = .ok (.istore_n 3, 1) := by decide +kernel
theorem d_M_findOdd_55 : decode b_M_findOdd 55 = .ok (.iload 4, 2) := by decide +kernel
theorem d_M_findOdd_57 : decode b_M_findOdd 57 = .ok (.ifCond .ne 13, 3) := by decide +kernel
theorem d_M_findOdd_60 : decode b_M_findOdd 60 = .ok (.aload_n 0, 1) := by decide +kernel
theorem d_M_findOdd_61 : decode b_M_findOdd 61 = .ok (.getfield 7, 3) := by decide +kernel
theorem d_M_findOdd_64 : decode b_M_findOdd 64 = .ok (.iload 5, 2) := by decide +kernel
theorem d_M_findOdd_66 : decode b_M_findOdd 66 = .ok (.baload, 1) := by decide +kernel
theorem d_M_findOdd_67 : decode b_M_findOdd 67 = .ok (.ifCond .eq 7, 3) := by decide +kernel
theorem d_M_findOdd_70 : decode b_M_findOdd 70 = .ok (.iconst 1, 1) := by decide +kernel
theorem d_M_findOdd_71 : decode b_M_findOdd 71 = .ok (.goto 4, 3) := by decide +kernel
theorem d_M_findOdd_74 : decode b_M_findOdd 74 = .ok (.iconst 0, 1) := by decide +kernel
theorem d_M_findOdd_75 : decode b_M_findOdd 75 = .ok (.istore 4, 2) := by decide +kernel
theorem d_M_findOdd_77 : decode b_M_findOdd 77 = .ok (.iinc 5 1, 3) := by decide +kernel
theorem d_M_findOdd_80 : decode b_M_findOdd 80 = .ok (.goto (-60), 3) := by decide +kernel
theorem d_M_findOdd_83 : decode b_M_findOdd 83 = .ok (.iload_n 3, 1) := by decide +kernel
theorem d_M_findOdd_84 : decode b_M_findOdd 84 = .ok (.iconst 2, 1) := by decide +kernel
theorem d_M_findOdd_85 : decode b_M_findOdd 85 = .ok (.irem, 1) := by decide +kernel
theorem d_M_findOdd_86 : decode b_M_findOdd 86 = .ok (.iconst 1, 1) := by decide +kernel
theorem d_M_findOdd_87 : decode b_M_findOdd 87 = .ok (.if_icmp .ne 12, 3) := by decide +kernel
theorem d_M_findOdd_90 : decode b_M_findOdd 90 = .ok (.iload 4, 2) := by decide +kernel
theorem d_M_findOdd_92 : decode b_M_findOdd 92 = .ok (.ifCond .ne 7, 3) := by decide +kernel
theorem d_M_findOdd_95 : decode b_M_findOdd 95 = .ok (.iconst 1, 1) := by decide +kernel
theorem d_M_findOdd_96 : decode b_M_findOdd 96 = .ok (.goto 4, 3) := by decide +kernel
theorem d_M_findOdd_99 : decode b_M_findOdd 99 = .ok (.iconst 0, 1) := by decide +kernel
theorem d_M_findOdd_100 : decode b_M_findOdd 100 = .ok (.istore 5, 2) := by decide +kernel
theorem d_M_findOdd_102 : decode b_M_findOdd 102 = .ok (.iconst 0, 1) := by decide +kernel
theorem d_M_findOdd_103 : decode b_M_findOdd 103 = .ok (.istore 6, 2) := by decide +kernel
theorem d_M_findOdd_105 : decode b_M_findOdd 105 = .ok (.iload 6, 2) := by decide +kernel
theorem d_M_findOdd_107 : decode b_M_findOdd 107 = .ok (.aload_n 0, 1) := by decide +kernel
theorem d_M_findOdd_108 : decode b_M_findOdd 108 = .ok (.getfield 55, 3) := by decide +kernel
theorem d_M_findOdd_111 : decode b_M_findOdd 111 = .ok (.if_icmp .ge 29, 3) := by decide +kernel
theorem d_M_findOdd_114 : decode b_M_findOdd 114 = .ok (.aload_n 0, 1) := by decide +kernel
theorem d_M_findOdd_115 : decode b_M_findOdd 115 = .ok (.getfield 20, 3) := by decide +kernel
theorem d_M_findOdd_118 : decode b_M_findOdd 118 = .ok (.iload 6, 2) := by decide +kernel
theorem d_M_findOdd_120 : decode b_M_findOdd 120 = .ok (.iaload, 1) := by decide +kernel
theorem d_M_findOdd_121 : decode b_M_findOdd 121 = .ok (.iload_n 2, 1) := by decide +kernel
theorem d_M_findOdd_122 : decode b_M_findOdd 122 = .ok (.if_icmp .ne 12, 3) := by decide +kernel
theorem d_M_findOdd_125 : decode b_M_findOdd 125 = .ok (.aload_n 0, 1) := by decide +kernel
theorem d_M_findOdd_126 : decode b_M_findOdd 126 = .ok (.getfield 26, 3) := by decide +kernel
theorem d_M_findOdd_129 : decode b_M_findOdd 129 = .ok (.iload 6, 2) := by decide +kernel
theorem d_M_findOdd_131 : decode b_M_findOdd 131 = .ok (.iload 5, 2) := by decide +kernel
theorem d_M_findOdd_133 : decode b_M_findOdd 133 = .ok (.bastore, 1) := by decide +kernel
theorem d_M_findOdd_134 : decode b_M_findOdd 134 = .ok (.iinc 6 1, 3) := by decide +kernel
theorem d_M_findOdd_137 : decode b_M_findOdd 137 = .ok (.goto (-32), 3) := by decide +kernel
theorem d_M_findOdd_140 : decode b_M_findOdd 140 = .ok (.iload_n 1, 1) := by decide +kernel
theorem d_M_findOdd_141 : decode b_M_findOdd 141 = .ok (.ifCond .ne 8, 3) := by decide +kernel
theorem d_M_findOdd_144 : decode b_M_findOdd 144 = .ok (.iload 5, 2) := by decide +kernel
theorem d_M_findOdd_146 : decode b_M_findOdd 146 = .ok (.ifCond .eq 7, 3) := by decide +kernel
theorem d_M_findOdd_149 : decode b_M_findOdd 149 = .ok (.iconst 1, 1) := by decide +kernel
theorem d_M_findOdd_150 : decode b_M_findOdd 150 = .ok (.goto 4, 3) := by decide +kernel
theorem d_M_findOdd_153 : decode b_M_findOdd 153 = .ok (.iconst 0, 1) := by decide +kernel
theorem d_M_findOdd_154 : decode b_M_findOdd 154 = .ok (.istore_n 1, 1) := by decide +kernel
theorem d_M_findOdd_155 : decode b_M_findOdd 155 = .ok (.iinc 2 1, 3) := by decide +kernel
theorem d_M_findOdd_158 : decode b_M_findOdd 158 = .ok (.goto (-154), 3) := by decide +kernel
theorem d_M_findOdd_161 : decode b_M_findOdd 161 = .ok (.iload_n 1, 1) := by decide +kernel
theorem d_M_findOdd_162 : decode b_M_findOdd 162 = .ok (.ireturn, 1) := by decide +kernel
theorem d_M_growEdges_0 : decode b_M_growEdges 0 = .ok (.iconst 0, 1) := by decide +kernel
theorem d_M_growEdges_1 : decode b_M_growEdges 1 = .ok (.istore_n 1, 1) := by decide +kernel
theorem d_M_growEdges_2 : decode b_M_growEdges 2 = .ok (.iconst 0, 1) := by decide +kernel
theorem d_M_growEdges_3 : decode b_M_growEdges 3 = .ok (.istore_n 2, 1) := by decide +kernel
theorem d_M_growEdges_4 : decode b_M_growEdges 4 = .ok (.iload_n 2, 1) := by decide +kernel
theorem d_M_growEdges_5 : decode b_M_growEdges 5 = .ok (.aload_n 0, 1) := by decide +kernel
theorem d_M_growEdges_6 : decode b_M_growEdges 6 = .ok (.getfield 58, 3) := by decide +kernel
theorem d_M_growEdges_9 : decode b_M_growEdges 9 = .ok (.if_icmp .ge 130, 3) := by decide +kernel
theorem d_M_growEdges_12 : decode b_M_growEdges 12 = .ok (.aload_n 0, 1) := by decide +kernel
theorem d_M_growEdges_13 : decode b_M_growEdges 13 = .ok (.getfield 29, 3) := by decide +kernel
theorem d_M_growEdges_16 : decode b_M_growEdges 16 = .ok (.iload_n 2, 1) := by decide +kernel
theorem d_M_growEdges_17 : decode b_M_growEdges 17 = .ok (.iconst 0, 1) := by decide +kernel
theorem d_M_growEdges_18 : decode b_M_growEdges 18 = .ok (.bastore, 1) := by decide +kernel
theorem d_M_growEdges_19 : decode b_M_growEdges 19 = .ok (.aload_n 0, 1) := by decide +kernel
theorem d_M_growEdges_20 : decode b_M_growEdges 20 = .ok (.getfield 23, 3) := by decide +kernel
theorem d_M_growEdges_23 : decode b_M_growEdges 23 = .ok (.iload_n 2, 1) := by decide +kernel
theorem d_M_growEdges_24 : decode b_M_growEdges 24 = .ok (.iaload, 1) := by decide +kernel
theorem d_M_growEdges_25 : decode b_M_growEdges 25 = .ok (.aload_n 0, 1) := by decide +kernel
theorem d_M_growEdges_26 : decode b_M_growEdges 26 = .ok (.getfield 17, 3) := by decide +kernel
theorem d_M_growEdges_29 : decode b_M_growEdges 29 = .ok (.iload_n 2, 1) := by decide +kernel
theorem d_M_growEdges_30 : decode b_M_growEdges 30 = .ok (.iaload, 1) := by decide +kernel
theorem d_M_growEdges_31 : decode b_M_growEdges 31 = .ok (.if_icmp .lt 6, 3) := by decide +kernel
theorem d_M_growEdges_34 : decode b_M_growEdges 34 = .ok (.goto 99, 3) := by decide +kernel
theorem d_M_growEdges_37 : decode b_M_growEdges 37 = .ok (.aload_n 0, 1) := by decide +kernel
theorem d_M_growEdges_38 : decode b_M_growEdges 38 = .ok (.getfield 26, 3) := by decide +kernel
theorem d_M_growEdges_41 : decode b_M_growEdges 41 = .ok (.aload_n 0, 1) := by decide +kernel
theorem d_M_growEdges_42 : decode b_M_growEdges 42 = .ok (.getfield 13, 3) := by decide +kernel
theorem d_M_growEdges_45 : decode b_M_growEdges 45 = .ok (.iconst 2, 1) := by decide +kernel
theorem d_M_growEdges_46 : decode b_M_growEdges 46 = .ok (.iload_n 2, 1) := by decide +kernel
theorem d_M_growEdges_47 : decode b_M_growEdges 47 = .ok (.imul, 1) := by decide +kernel
theorem d_M_growEdges_48 : decode b_M_growEdges 48 = .ok (.iaload, 1) := by decide +kernel
theorem d_M_growEdges_49 : decode b_M_growEdges 49 = .ok (.baload, 1) := by decide +kernel
theorem d_M_growEdges_50 : decode b_M_growEdges 50 = .ok (.ifCond .eq 7, 3) := by decide +kernel
theorem d_M_growEdges_53 : decode b_M_growEdges 53 = .ok (.iconst 1, 1) := by decide +kernel
theorem d_M_growEdges_54 : decode b_M_growEdges 54 = .ok (.goto 4, 3) := by decide +kernel
theorem d_M_growEdges_57 : decode b_M_growEdges 57 = .ok (.iconst 0, 1) := by decide +kernel
theorem d_M_growEdges_58 : decode b_M_growEdges 58 = .ok (.aload_n 0, 1) := by decide +kernel
theorem d_M_growEdges_59 : decode b_M_growEdges 59 = .ok (.getfield 26, 3) := by decide +kernel
theorem d_M_growEdges_62 : decode b_M_growEdges 62 = .ok (.aload_n 0, 1) := by decide +kernel
theorem d_M_growEdges_63 : decode b_M_growEdges 63 = .ok (.getfield 13, 3) := by decide +kernel
theorem d_M_growEdges_66 : decode b_M_growEdges 66 = .ok (.iconst 2, 1) := by decide +kernel
theorem d_M_growEdges_67 : decode b_M_growEdges 67 = .ok (.iload_n 2, 1) := by decide +kernel
theorem d_M_growEdges_68 : decode b_M_growEdges 68 = .ok (.imul, 1) := by decide +kernel
theorem d_M_growEdges_69 : decode b_M_growEdges 69 = .ok (.iconst 1, 1) := by decide +kernel
theorem d_M_growEdges_70 : decode b_M_growEdges 70 = .ok (.iadd, 1) := by decide +kernel
theorem d_M_growEdges_71 : decode b_M_growEdges 71 = .ok (.iaload, 1) := by decide +kernel
theorem d_M_growEdges_72 : decode b_M_growEdges 72 = .ok (.baload, 1) := by decide +kernel
theorem d_M_growEdges_73 : decode b_M_growEdges 73 = .ok (.ifCond .eq 7, 3) := by decide +kernel
theorem d_M_growEdges_76 : decode b_M_growEdges 76 = .ok (.iconst 1, 1) := by decide +kernel
theorem d_M_growEdges_77 : decode b_M_growEdges 77 = .ok (.goto 4, 3) := by decide +kernel
theorem d_M_growEdges_80 : decode b_M_growEdges 80 = .ok (.iconst 0, 1) := by decide +kernel
theorem d_M_growEdges_81 : decode b_M_growEdges 81 = .ok (.iadd, 1) := by decide +kernel
theorem d_M_growEdges_82 : decode b_M_growEdges 82 = .ok (.istore_n 3, 1) := by decide +kernel
theorem d_M_growEdges_83 : decode b_M_growEdges 83 = .ok (.aload_n 0, 1) := by decide +kernel
theorem d_M_growEdges_84 : decode b_M_growEdges 84 = .ok (.getfield 23, 3) := by decide +kernel
theorem d_M_growEdges_87 : decode b_M_growEdges 87 = .ok (.iload_n 2, 1) := by decide +kernel
theorem d_M_growEdges_88 : decode b_M_growEdges 88 = .ok (.dup2, 1) := by decide +kernel
theorem d_M_growEdges_89 : decode b_M_growEdges 89 = .ok (.iaload, 1) := by decide +kernel
theorem d_M_growEdges_90 : decode b_M_growEdges 90 = .ok (.iload_n 3, 1) := by decide +kernel
theorem d_M_growEdges_91 : decode b_M_growEdges 91 = .ok (.iadd, 1) := by decide +kernel
theorem d_M_growEdges_92 : decode b_M_growEdges 92 = .ok (.iastore, 1) := by decide +kernel
theorem d_M_growEdges_93 : decode b_M_growEdges 93 = .ok (.iload_n 1, 1) := by decide +kernel
theorem d_M_growEdges_94 : decode b_M_growEdges 94 = .ok (.ifCond .ne 7, 3) := by decide +kernel
theorem d_M_growEdges_97 : decode b_M_growEdges 97 = .ok (.iload_n 3, 1) := by decide +kernel
theorem d_M_growEdges_98 : decode b_M_growEdges 98 = .ok (.ifCond .le 7, 3) := by decide +kernel
theorem d_M_growEdges_101 : decode b_M_growEdges 101 = .ok (.iconst 1, 1) := by decide +kernel
theorem d_M_growEdges_102 : decode b_M_growEdges 102 = .ok (.goto 4, 3) := by decide +kernel
theorem d_M_growEdges_105 : decode b_M_growEdges 105 = .ok (.iconst 0, 1) := by decide +kernel
theorem d_M_growEdges_106 : decode b_M_growEdges 106 = .ok (.istore_n 1, 1) := by decide +kernel
theorem d_M_growEdges_107 : decode b_M_growEdges 107 = .ok (.aload_n 0, 1) := by decide +kernel
theorem d_M_growEdges_108 : decode b_M_growEdges 108 = .ok (.getfield 29, 3) := by decide +kernel
theorem d_M_growEdges_111 : decode b_M_growEdges 111 = .ok (.iload_n 2, 1) := by decide +kernel
theorem d_M_growEdges_112 : decode b_M_growEdges 112 = .ok (.aload_n 0, 1) := by decide +kernel
theorem d_M_growEdges_113 : decode b_M_growEdges 113 = .ok (.getfield 23, 3) := by decide +kernel
theorem d_M_growEdges_116 : decode b_M_growEdges 116 = .ok (.iload_n 2, 1) := by decide +kernel
theorem d_M_growEdges_117 : decode b_M_growEdges 117 = .ok (.iaload, 1) := by decide +kernel
theorem d_M_growEdges_118 : decode b_M_growEdges 118 = .ok (.aload_n 0, 1) := by decide +kernel
theorem d_M_growEdges_119 : decode b_M_growEdges 119 = .ok (.getfield 17, 3) := by decide +kernel
theorem d_M_growEdges_122 : decode b_M_growEdges 122 = .ok (.iload_n 2, 1) := by decide +kernel
theorem d_M_growEdges_123 : decode b_M_growEdges 123 = .ok (.iaload, 1) := by decide +kernel
theorem d_M_growEdges_124 : decode b_M_growEdges 124 = .ok (.if_icmp .lt 7, 3) := by decide +kernel
theorem d_M_growEdges_127 : decode b_M_growEdges 127 = .ok (.iconst 1, 1) := by decide +kernel
theorem d_M_growEdges_128 : decode b_M_growEdges 128 = .ok (.goto 4, 3) := by decide +kernel
theorem d_M_growEdges_131 : decode b_M_growEdges 131 = .ok (.iconst 0, 1) := by decide +kernel
theorem d_M_growEdges_132 : decode b_M_growEdges 132 = .ok (.bastore, 1) := by decide +kernel
theorem d_M_growEdges_133 : decode b_M_growEdges 133 = .ok (.iinc 2 1, 3) := by decide +kernel
theorem d_M_growEdges_136 : decode b_M_growEdges 136 = .ok (.goto (-132), 3) := by decide +kernel
theorem d_M_growEdges_139 : decode b_M_growEdges 139 = .ok (.iload_n 1, 1) := by decide +kernel
theorem d_M_growEdges_140 : decode b_M_growEdges 140 = .ok (.ireturn, 1) := by decide +kernel
theorem d_M_merge_0 : decode b_M_merge 0 = .ok (.iload_n 1, 1) := by decide +kernel
theorem d_M_merge_1 : decode b_M_merge 1 = .ok (.iload_n 2, 1) := by decide +kernel
theorem d_M_merge_2 : decode b_M_merge 2 = .ok (.if_icmp .ge 7, 3) := by decide +kernel
theorem d_M_merge_5 : decode b_M_merge 5 = .ok (.iload_n 1, 1) := by decide +kernel
theorem d_M_merge_6 : decode b_M_merge 6 = .ok (.goto 4, 3) := by decide +kernel
theorem d_M_merge_9 : decode b_M_merge 9 = .ok (.iload_n 2, 1) := by decide +kernel
theorem d_M_merge_10 : decode b_M_merge 10 = .ok (.istore_n 3, 1) := by decide +kernel
theorem d_M_merge_11 : decode b_M_merge 11 = .ok (.iload_n 1, 1) := by decide +kernel
theorem d_M_merge_12 : decode b_M_merge 12 = .ok (.iload_n 2, 1) := by decide +kernel
theorem d_M_merge_13 : decode b_M_merge 13 = .ok (.if_icmp .ge 7, 3) := by decide +kernel
theorem d_M_merge_16 : decode b_M_merge 16 = .ok (.iload_n 2, 1) := by decide +kernel
theorem d_M_merge_17 : decode b_M_merge 17 = .ok (.goto 4, 3) := by decide +kernel
theorem d_M_merge_20 : decode b_M_merge 20 = .ok (.iload_n 1, 1) := by decide +kernel
theorem d_M_merge_21 : decode b_M_merge 21 = .ok (.istore 4, 2) := by decide +kernel
theorem d_M_merge_23 : decode b_M_merge 23 = .ok (.iconst 0, 1) := by decide +kernel
theorem d_M_merge_24 : decode b_M_merge 24 = .ok (.istore 5, 2) := by decide +kernel
theorem d_M_merge_26 : decode b_M_merge 26 = .ok (.iload 5, 2) := by decide +kernel
theorem d_M_merge_28 : decode b_M_merge 28 = .ok (.aload_n 0, 1) := by decide +kernel
theorem d_M_merge_29 : decode b_M_merge 29 = .ok (.getfield 55, 3) := by decide +kernel
theorem d_M_merge_32 : decode b_M_merge 32 = .ok (.if_icmp .ge 39, 3) := by decide +kernel
theorem d_M_merge_35 : decode b_M_merge 35 = .ok (.aload_n 0, 1) := by decide +kernel
theorem d_M_merge_36 : decode b_M_merge 36 = .ok (.getfield 20, 3) := by decide +kernel
theorem d_M_merge_39 : decode b_M_merge 39 = .ok (.iload 5, 2) := by decide +kernel
theorem d_M_merge_41 : decode b_M_merge 41 = .ok (.aload_n 0, 1) := by decide +kernel
theorem d_M_merge_42 : decode b_M_merge 42 = .ok (.getfield 20, 3) := by decide +kernel
theorem d_M_merge_45 : decode b_M_merge 45 = .ok (.iload 5, 2) := by decide +kernel
theorem d_M_merge_47 : decode b_M_merge 47 = .ok (.iaload, 1) := by decide +kernel
theorem d_M_merge_48 : decode b_M_merge 48 = .ok (.iload 4, 2) := by decide +kernel
theorem d_M_merge_50 : decode b_M_merge 50 = .ok (.if_icmp .ne 7, 3) := by decide +kernel
theorem d_M_merge_53 : decode b_M_merge 53 = .ok (.iload_n 3, 1) := by decide +kernel
theorem d_M_merge_54 : decode b_M_merge 54 = .ok (.goto 10, 3) := by decide +kernel
theorem d_M_merge_57 : decode b_M_merge 57 = .ok (.aload_n 0, 1) := by decide +kernel
theorem d_M_merge_58 : decode b_M_merge 58 = .ok (.getfield 20, 3) := by decide +kernel
theorem d_M_merge_61 : decode b_M_merge 61 = .ok (.iload 5, 2) := by decide +kernel
theorem d_M_merge_63 : decode b_M_merge 63 = .ok (.iaload, 1) := by decide +kernel
theorem d_M_merge_64 : decode b_M_merge 64 = .ok (.iastore, 1) := by decide +kernel
theorem d_M_merge_65 : decode b_M_merge 65 = .ok (.iinc 5 1, 3) := by decide +kernel
theorem d_M_merge_68 : decode b_M_merge 68 = .ok (.goto (-42), 3) := by decide +kernel
theorem d_M_merge_71 : decode b_M_merge 71 = .ok (.return_, 1) := by decide +kernel
theorem d_M_growAll_0 : decode b_M_growAll 0 = .ok (.iconst 0, 1) := by decide +kernel
theorem d_M_growAll_1 : decode b_M_growAll 1 = .ok (.istore_n 1, 1) := by decide +kernel
theorem d_M_growAll_2 : decode b_M_growAll 2 = .ok (.iload_n 1, 1) := by decide +kernel
theorem d_M_growAll_3 : decode b_M_growAll 3 = .ok (.aload_n 0, 1) := by decide +kernel
theorem d_M_growAll_4 : decode b_M_growAll 4 = .ok (.getfield 55, 3) := by decide +kernel
theorem d_M_growAll_7 : decode b_M_growAll 7 = .ok (.if_icmp .ge 16, 3) := by decide +kernel
theorem d_M_growAll_10 : decode b_M_growAll 10 = .ok (.aload_n 0, 1) := by decide +kernel
theorem d_M_growAll_11 : decode b_M_growAll 11 = .ok (.getfield 20, 3) := by decide +kernel
theorem d_M_growAll_14 : decode b_M_growAll 14 = .ok (.iload_n 1, 1) := by decide +kernel
theorem d_M_growAll_15 : decode b_M_growAll 15 = .ok (.iload_n 1, 1) := by decide +kernel
theorem d_M_growAll_16 : decode b_M_growAll 16 = .ok (.iastore, 1) := by decide +kernel
theorem d_M_growAll_17 : decode b_M_growAll 17 = .ok (.iinc 1 1, 3) := by decide +kernel
theorem d_M_growAll_20 : decode b_M_growAll 20 = .ok (.goto (-18), 3) := by decide +kernel
theorem d_M_growAll_23 : decode b_M_growAll 23 = .ok (.iconst 0, 1) := by decide +kernel
theorem d_M_growAll_24 : decode b_M_growAll 24 = .ok (.istore_n 1, 1) := by decide +kernel
theorem d_M_growAll_25 : decode b_M_growAll 25 = .ok (.iload_n 1, 1) := by decide +kernel
theorem d_M_growAll_26 : decode b_M_growAll 26 = .ok (.bipush 60, 2) := by decide +kernel
theorem d_M_growAll_28 : decode b_M_growAll 28 = .ok (.if_icmp .ge 16, 3) := by decide +kernel
theorem d_M_growAll_31 : decode b_M_growAll 31 = .ok (.aload_n 0, 1) := by decide +kernel
theorem d_M_growAll_32 : decode b_M_growAll 32 = .ok (.getfield 23, 3) := by decide +kernel
theorem d_M_growAll_35 : decode b_M_growAll 35 = .ok (.iload_n 1, 1) := by decide +kernel
theorem d_M_growAll_36 : decode b_M_growAll 36 = .ok (.iconst 0, 1) := by decide +kernel
theorem d_M_growAll_37 : decode b_M_growAll 37 = .ok (.iastore, 1) := by decide +kernel
theorem d_M_growAll_38 : decode b_M_growAll 38 = .ok (.iinc 1 1, 3) := by decide +kernel
theorem d_M_growAll_41 : decode b_M_growAll 41 = .ok (.goto (-16), 3) := by decide +kernel
theorem d_M_growAll_44 : decode b_M_growAll 44 = .ok (.aload_n 0, 1) := by decide +kernel
theorem d_M_growAll_45 : decode b_M_growAll 45 = .ok (.iconst 0, 1) := by decide +kernel
theorem d_M_growAll_46 : decode b_M_growAll 46 = .ok (.putfield 72, 3) := by decide +kernel
theorem d_M_growAll_49 : decode b_M_growAll 49 = .ok (.aload_n 0, 1) := by decide +kernel
theorem d_M_growAll_50 : decode b_M_growAll 50 = .ok (.lconst 0, 1) := by decide +kernel
theorem d_M_growAll_51 : decode b_M_growAll 51 = .ok (.putfield 75, 3) := by decide +kernel
theorem d_M_growAll_54 : decode b_M_growAll 54 = .ok (.aload_n 0, 1) := by decide +kernel
theorem d_M_growAll_55 : decode b_M_growAll 55 = .ok (.lconst 0, 1) := by decide +kernel
theorem d_M_growAll_56 : decode b_M_growAll 56 = .ok (.putfield 79, 3) := by decide +kernel
theorem d_M_growAll_59 : decode b_M_growAll 59 = .ok (.aload_n 0, 1) := by decide +kernel
theorem d_M_growAll_60 : decode b_M_growAll 60 = .ok (.invokevirtual 82, 3) := by decide +kernel
theorem d_M_growAll_63 : decode b_M_growAll 63 = .ok (.ifCond .eq 106, 3) := by decide +kernel
theorem d_M_growAll_66 : decode b_M_growAll 66 = .ok (.aload_n 0, 1) := by decide +kernel
theorem d_M_growAll_67 : decode b_M_growAll 67 = .ok (.dup, 1) := by decide +kernel
theorem d_M_growAll_68 : decode b_M_growAll 68 = .ok (.getfield 72, 3) := by decide +kernel
theorem d_M_growAll_71 : decode b_M_growAll 71 = .ok (.iconst 1, 1) := by decide +kernel
theorem d_M_growAll_72 : decode b_M_growAll 72 = .ok (.iadd, 1) := by decide +kernel
theorem d_M_growAll_73 : decode b_M_growAll 73 = .ok (.putfield 72, 3) := by decide +kernel
theorem d_M_growAll_76 : decode b_M_growAll 76 = .ok (.aload_n 0, 1) := by decide +kernel
theorem d_M_growAll_77 : decode b_M_growAll 77 = .ok (.invokevirtual 86, 3) := by decide +kernel
theorem d_M_growAll_80 : decode b_M_growAll 80 = .ok (.ifCond .ne 5, 3) := by decide +kernel
theorem d_M_growAll_83 : decode b_M_growAll 83 = .ok (.iconst 0, 1) := by decide +kernel
theorem d_M_growAll_84 : decode b_M_growAll 84 = .ok (.ireturn, 1) := by decide +kernel
theorem d_M_growAll_85 : decode b_M_growAll 85 = .ok (.iconst 0, 1) := by decide +kernel
theorem d_M_growAll_86 : decode b_M_growAll 86 = .ok (.istore_n 1, 1) := by decide +kernel
theorem d_M_growAll_87 : decode b_M_growAll 87 = .ok (.iload_n 1, 1) := by decide +kernel
theorem d_M_growAll_88 : decode b_M_growAll 88 = .ok (.aload_n 0, 1) := by decide +kernel
theorem d_M_growAll_89 : decode b_M_growAll 89 = .ok (.getfield 58, 3) := by decide +kernel
theorem d_M_growAll_92 : decode b_M_growAll 92 = .ok (.if_icmp .ge 74, 3) := by decide +kernel
theorem d_M_growAll_95 : decode b_M_growAll 95 = .ok (.aload_n 0, 1) := by decide +kernel
theorem d_M_growAll_96 : decode b_M_growAll 96 = .ok (.getfield 20, 3) := by decide +kernel
theorem d_M_growAll_99 : decode b_M_growAll 99 = .ok (.aload_n 0, 1) := by decide +kernel
theorem d_M_growAll_100 : decode b_M_growAll 100 = .ok (.getfield 13, 3) := by decide +kernel
theorem d_M_growAll_103 : decode b_M_growAll 103 = .ok (.iconst 2, 1) := by decide +kernel
theorem d_M_growAll_104 : decode b_M_growAll 104 = .ok (.iload_n 1, 1) := by decide +kernel
theorem d_M_growAll_105 : decode b_M_growAll 105 = .ok (.imul, 1) := by decide +kernel
theorem d_M_growAll_106 : decode b_M_growAll 106 = .ok (.iaload, 1) := by decide +kernel
theorem d_M_growAll_107 : decode b_M_growAll 107 = .ok (.iaload, 1) := by decide +kernel
theorem d_M_growAll_108 : decode b_M_growAll 108 = .ok (.istore_n 2, 1) := by decide +kernel
theorem d_M_growAll_109 : decode b_M_growAll 109 = .ok (.aload_n 0, 1) := by decide +kernel
theorem d_M_growAll_110 : decode b_M_growAll 110 = .ok (.getfield 20, 3) := by decide +kernel
theorem d_M_growAll_113 : decode b_M_growAll 113 = .ok (.aload_n 0, 1) := by decide +kernel
theorem d_M_growAll_114 : decode b_M_growAll 114 = .ok (.getfield 13, 3) := by decide +kernel
theorem d_M_growAll_117 : decode b_M_growAll 117 = .ok (.iconst 2, 1) := by decide +kernel
theorem d_M_growAll_118 : decode b_M_growAll 118 = .ok (.iload_n 1, 1) := by decide +kernel
theorem d_M_growAll_119 : decode b_M_growAll 119 = .ok (.imul, 1) := by decide +kernel
theorem d_M_growAll_120 : decode b_M_growAll 120 = .ok (.iconst 1, 1) := by decide +kernel
theorem d_M_growAll_121 : decode b_M_growAll 121 = .ok (.iadd, 1) := by decide +kernel
theorem d_M_growAll_122 : decode b_M_growAll 122 = .ok (.iaload, 1) := by decide +kernel
theorem d_M_growAll_123 : decode b_M_growAll 123 = .ok (.iaload, 1) := by decide +kernel
theorem d_M_growAll_124 : decode b_M_growAll 124 = .ok (.istore_n 3, 1) := by decide +kernel
theorem d_M_growAll_125 : decode b_M_growAll 125 = .ok (.aload_n 0, 1) := by decide +kernel
theorem d_M_growAll_126 : decode b_M_growAll 126 = .ok (.getfield 29, 3) := by decide +kernel
theorem d_M_growAll_129 : decode b_M_growAll 129 = .ok (.iload_n 1, 1) := by decide +kernel
theorem d_M_growAll_130 : decode b_M_growAll 130 = .ok (.baload, 1) := by decide +kernel
theorem d_M_growAll_131 : decode b_M_growAll 131 = .ok (.ifCond .eq 29, 3) := by decide +kernel
theorem d_M_growAll_134 : decode b_M_growAll 134 = .ok (.iload_n 2, 1) := by decide +kernel
theorem d_M_growAll_135 : decode b_M_growAll 135 = .ok (.iload_n 3, 1) := by decide +kernel
theorem d_M_growAll_136 : decode b_M_growAll 136 = .ok (.if_icmp .ne 6, 3) := by decide +kernel
theorem d_M_growAll_139 : decode b_M_growAll 139 = .ok (.goto 21, 3) := by decide +kernel
theorem d_M_growAll_142 : decode b_M_growAll 142 = .ok (.aload_n 0, 1) := by decide +kernel
theorem d_M_growAll_143 : decode b_M_growAll 143 = .ok (.iload_n 2, 1) := by decide +kernel
theorem d_M_growAll_144 : decode b_M_growAll 144 = .ok (.iload_n 3, 1) := by decide +kernel
theorem d_M_growAll_145 : decode b_M_growAll 145 = .ok (.invokevirtual 89, 3) := by decide +kernel
theorem d_M_growAll_148 : decode b_M_growAll 148 = .ok (.aload_n 0, 1) := by decide +kernel
theorem d_M_growAll_149 : decode b_M_growAll 149 = .ok (.dup, 1) := by decide +kernel
theorem d_M_growAll_150 : decode b_M_growAll 150 = .ok (.getfield 75, 3) := by decide +kernel
theorem d_M_growAll_153 : decode b_M_growAll 153 = .ok (.lconst 1, 1) := by decide +kernel
theorem d_M_growAll_154 : decode b_M_growAll 154 = .ok (.iload_n 1, 1) := by decide +kernel
theorem d_M_growAll_155 : decode b_M_growAll 155 = .ok (.lshl, 1) := by decide +kernel
theorem d_M_growAll_156 : decode b_M_growAll 156 = .ok (.lor, 1) := by decide +kernel
theorem d_M_growAll_157 : decode b_M_growAll 157 = .ok (.putfield 75, 3) := by decide +kernel
theorem d_M_growAll_160 : decode b_M_growAll 160 = .ok (.iinc 1 1, 3) := by decide +kernel
theorem d_M_growAll_163 : decode b_M_growAll 163 = .ok (.goto (-76), 3) := by decide +kernel
theorem d_M_growAll_166 : decode b_M_growAll 166 = .ok (.goto (-107), 3) := by decide +kernel
theorem d_M_growAll_169 : decode b_M_growAll 169 = .ok (.iconst 1, 1) := by decide +kernel
theorem d_M_growAll_170 : decode b_M_growAll 170 = .ok (.ireturn, 1) := by decide +kernel
theorem d_M_rootOf_0 : decode b_M_rootOf 0 = .ok (.iconst 0, 1) := by decide +kernel
theorem d_M_rootOf_1 : decode b_M_rootOf 1 = .ok (.istore_n 2, 1) := by decide +kernel
theorem d_M_rootOf_2 : decode b_M_rootOf 2 = .ok (.iload_n 2, 1) := by decide +kernel
theorem d_M_rootOf_3 : decode b_M_rootOf 3 = .ok (.aload_n 0, 1) := by decide +kernel
theorem d_M_rootOf_4 : decode b_M_rootOf 4 = .ok (.getfield 55, 3) := by decide +kernel
theorem d_M_rootOf_7 : decode b_M_rootOf 7 = .ok (.if_icmp .ge 30, 3) := by decide +kernel
theorem d_M_rootOf_10 : decode b_M_rootOf 10 = .ok (.aload_n 0, 1) := by decide +kernel
theorem d_M_rootOf_11 : decode b_M_rootOf 11 = .ok (.getfield 20, 3) := by decide +kernel
theorem d_M_rootOf_14 : decode b_M_rootOf 14 = .ok (.iload_n 2, 1) := by decide +kernel
theorem d_M_rootOf_15 : decode b_M_rootOf 15 = .ok (.iaload, 1) := by decide +kernel
theorem d_M_rootOf_16 : decode b_M_rootOf 16 = .ok (.iload_n 1, 1) := by decide +kernel
theorem d_M_rootOf_17 : decode b_M_rootOf 17 = .ok (.if_icmp .ne 14, 3) := by decide +kernel
theorem d_M_rootOf_20 : decode b_M_rootOf 20 = .ok (.aload_n 0, 1) := by decide +kernel
theorem d_M_rootOf_21 : decode b_M_rootOf 21 = .ok (.getfield 7, 3) := by decide +kernel
theorem d_M_rootOf_24 : decode b_M_rootOf 24 = .ok (.iload_n 2, 1) := by decide +kernel
theorem d_M_rootOf_25 : decode b_M_rootOf 25 = .ok (.baload, 1) := by decide +kernel
theorem d_M_rootOf_26 : decode b_M_rootOf 26 = .ok (.ifCond .eq 5, 3) := by decide +kernel
theorem d_M_rootOf_29 : decode b_M_rootOf 29 = .ok (.iload_n 2, 1) := by decide +kernel
theorem d_M_rootOf_30 : decode b_M_rootOf 30 = .ok (.ireturn, 1) := by decide +kernel
theorem d_M_rootOf_31 : decode b_M_rootOf 31 = .ok (.iinc 2 1, 3) := by decide +kernel
theorem d_M_rootOf_34 : decode b_M_rootOf 34 = .ok (.goto (-32), 3) := by decide +kernel
theorem d_M_rootOf_37 : decode b_M_rootOf 37 = .ok (.iload_n 1, 1) := by decide +kernel
theorem d_M_rootOf_38 : decode b_M_rootOf 38 = .ok (.ireturn, 1) := by decide +kernel
theorem d_M_isOfFix_0 : decode b_M_isOfFix 0 = .ok (.aload_n 0, 1) := by decide +kernel
theorem d_M_isOfFix_1 : decode b_M_isOfFix 1 = .ok (.getfield 20, 3) := by decide +kernel
theorem d_M_isOfFix_4 : decode b_M_isOfFix 4 = .ok (.aload_n 0, 1) := by decide +kernel
theorem d_M_isOfFix_5 : decode b_M_isOfFix 5 = .ok (.getfield 13, 3) := by decide +kernel
theorem d_M_isOfFix_8 : decode b_M_isOfFix 8 = .ok (.iconst 2, 1) := by decide +kernel
theorem d_M_isOfFix_9 : decode b_M_isOfFix 9 = .ok (.iload_n 1, 1) := by decide +kernel
theorem d_M_isOfFix_10 : decode b_M_isOfFix 10 = .ok (.imul, 1) := by decide +kernel
theorem d_M_isOfFix_11 : decode b_M_isOfFix 11 = .ok (.iaload, 1) := by decide +kernel
theorem d_M_isOfFix_12 : decode b_M_isOfFix 12 = .ok (.iaload, 1) := by decide +kernel
theorem d_M_isOfFix_13 : decode b_M_isOfFix 13 = .ok (.istore_n 2, 1) := by decide +kernel
theorem d_M_isOfFix_14 : decode b_M_isOfFix 14 = .ok (.iconst 0, 1) := by decide +kernel
theorem d_M_isOfFix_15 : decode b_M_isOfFix 15 = .ok (.istore_n 3, 1) := by decide +kernel
theorem d_M_isOfFix_16 : decode b_M_isOfFix 16 = .ok (.iload_n 3, 1) := by decide +kernel
theorem d_M_isOfFix_17 : decode b_M_isOfFix 17 = .ok (.aload_n 0, 1) := by decide +kernel
theorem d_M_isOfFix_18 : decode b_M_isOfFix 18 = .ok (.getfield 55, 3) := by decide +kernel
theorem d_M_isOfFix_21 : decode b_M_isOfFix 21 = .ok (.if_icmp .ge 16, 3) := by decide +kernel
theorem d_M_isOfFix_24 : decode b_M_isOfFix 24 = .ok (.aload_n 0, 1) := by decide +kernel
theorem d_M_isOfFix_25 : decode b_M_isOfFix 25 = .ok (.getfield 32, 3) := by decide +kernel
theorem d_M_isOfFix_28 : decode b_M_isOfFix 28 = .ok (.iload_n 3, 1) := by decide +kernel
theorem d_M_isOfFix_29 : decode b_M_isOfFix 29 = .ok (.iconst 0, 1) := by decide +kernel
theorem d_M_isOfFix_30 : decode b_M_isOfFix 30 = .ok (.bastore, 1) := by decide +kernel
theorem d_M_isOfFix_31 : decode b_M_isOfFix 31 = .ok (.iinc 3 1, 3) := by decide +kernel
theorem d_M_isOfFix_34 : decode b_M_isOfFix 34 = .ok (.goto (-18), 3) := by decide +kernel
theorem d_M_isOfFix_37 : decode b_M_isOfFix 37 = .ok (.aload_n 0, 1) := by decide +kernel
theorem d_M_isOfFix_38 : decode b_M_isOfFix 38 = .ok (.getfield 32, 3) := by decide +kernel
theorem d_M_isOfFix_41 : decode b_M_isOfFix 41 = .ok (.aload_n 0, 1) := by decide +kernel
theorem d_M_isOfFix_42 : decode b_M_isOfFix 42 = .ok (.iload_n 2, 1) := by decide +kernel
theorem d_M_isOfFix_43 : decode b_M_isOfFix 43 = .ok (.invokevirtual 93, 3) := by decide +kernel
theorem d_M_isOfFix_46 : decode b_M_isOfFix 46 = .ok (.iconst 1, 1) := by decide +kernel
theorem d_M_isOfFix_47 : decode b_M_isOfFix 47 = .ok (.bastore, 1) := by decide +kernel
theorem d_M_isOfFix_48 : decode b_M_isOfFix 48 = .ok (.iconst 1, 1) := by decide +kernel
theorem d_M_isOfFix_49 : decode b_M_isOfFix 49 = .ok (.istore_n 3, 1) := by decide +kernel
theorem d_M_isOfFix_50 : decode b_M_isOfFix 50 = .ok (.iload_n 3, 1) := by decide +kernel
theorem d_M_isOfFix_51 : decode b_M_isOfFix 51 = .ok (.ifCond .eq 116, 3) := by decide +kernel
theorem d_M_isOfFix_54 : decode b_M_isOfFix 54 = .ok (.iconst 0, 1) := by decide +kernel
theorem d_M_isOfFix_55 : decode b_M_isOfFix 55 = .ok (.istore_n 3, 1) := by decide +kernel
theorem d_M_isOfFix_56 : decode b_M_isOfFix 56 = .ok (.iconst 0, 1) := by decide +kernel
theorem d_M_isOfFix_57 : decode b_M_isOfFix 57 = .ok (.istore 4, 2) := by decide +kernel
theorem d_M_isOfFix_59 : decode b_M_isOfFix 59 = .ok (.iload 4, 2) := by decide +kernel
theorem d_M_isOfFix_61 : decode b_M_isOfFix 61 = .ok (.aload_n 0, 1) := by decide +kernel
theorem d_M_isOfFix_62 : decode b_M_isOfFix 62 = .ok (.getfield 58, 3) := by decide +kernel
theorem d_M_isOfFix_65 : decode b_M_isOfFix 65 = .ok (.if_icmp .ge 99, 3) := by decide +kernel
theorem d_M_isOfFix_68 : decode b_M_isOfFix 68 = .ok (.iload 4, 2) := by decide +kernel
theorem d_M_isOfFix_70 : decode b_M_isOfFix 70 = .ok (.iload_n 1, 1) := by decide +kernel
theorem d_M_isOfFix_71 : decode b_M_isOfFix 71 = .ok (.if_icmp .eq 87, 3) := by decide +kernel
theorem d_M_isOfFix_74 : decode b_M_isOfFix 74 = .ok (.aload_n 0, 1) := by decide +kernel
theorem d_M_isOfFix_75 : decode b_M_isOfFix 75 = .ok (.getfield 75, 3) := by decide +kernel
theorem d_M_isOfFix_78 : decode b_M_isOfFix 78 = .ok (.iload 4, 2) := by decide +kernel
theorem d_M_isOfFix_80 : decode b_M_isOfFix 80 = .ok (.lshr, 1) := by decide +kernel
theorem d_M_isOfFix_81 : decode b_M_isOfFix 81 = .ok (.lconst 1, 1) := by decide +kernel
theorem d_M_isOfFix_82 : decode b_M_isOfFix 82 = .ok (.land, 1) := by decide +kernel
theorem d_M_isOfFix_83 : decode b_M_isOfFix 83 = .ok (.lconst 0, 1) := by decide +kernel
theorem d_M_isOfFix_84 : decode b_M_isOfFix 84 = .ok (.lcmp, 1) := by decide +kernel
theorem d_M_isOfFix_85 : decode b_M_isOfFix 85 = .ok (.ifCond .eq 73, 3) := by decide +kernel
theorem d_M_isOfFix_88 : decode b_M_isOfFix 88 = .ok (.aload_n 0, 1) := by decide +kernel
theorem d_M_isOfFix_89 : decode b_M_isOfFix 89 = .ok (.getfield 32, 3) := by decide +kernel
theorem d_M_isOfFix_92 : decode b_M_isOfFix 92 = .ok (.aload_n 0, 1) := by decide +kernel
theorem d_M_isOfFix_93 : decode b_M_isOfFix 93 = .ok (.getfield 13, 3) := by decide +kernel
theorem d_M_isOfFix_96 : decode b_M_isOfFix 96 = .ok (.iconst 2, 1) := by decide +kernel
theorem d_M_isOfFix_97 : decode b_M_isOfFix 97 = .ok (.iload 4, 2) := by decide +kernel
theorem d_M_isOfFix_99 : decode b_M_isOfFix 99 = .ok (.imul, 1) := by decide +kernel
theorem d_M_isOfFix_100 : decode b_M_isOfFix 100 = .ok (.iaload, 1) := by decide +kernel
theorem d_M_isOfFix_101 : decode b_M_isOfFix 101 = .ok (.baload, 1) := by decide +kernel
theorem d_M_isOfFix_102 : decode b_M_isOfFix 102 = .ok (.aload_n 0, 1) := by decide +kernel
theorem d_M_isOfFix_103 : decode b_M_isOfFix 103 = .ok (.getfield 32, 3) := by decide +kernel
theorem d_M_isOfFix_106 : decode b_M_isOfFix 106 = .ok (.aload_n 0, 1) := by decide +kernel
theorem d_M_isOfFix_107 : decode b_M_isOfFix 107 = .ok (.getfield 13, 3) := by decide +kernel
theorem d_M_isOfFix_110 : decode b_M_isOfFix 110 = .ok (.iconst 2, 1) := by decide +kernel
theorem d_M_isOfFix_111 : decode b_M_isOfFix 111 = .ok (.iload 4, 2) := by decide +kernel
theorem d_M_isOfFix_113 : decode b_M_isOfFix 113 = .ok (.imul, 1) := by decide +kernel
theorem d_M_isOfFix_114 : decode b_M_isOfFix 114 = .ok (.iconst 1, 1) := by decide +kernel
theorem d_M_isOfFix_115 : decode b_M_isOfFix 115 = .ok (.iadd, 1) := by decide +kernel
theorem d_M_isOfFix_116 : decode b_M_isOfFix 116 = .ok (.iaload, 1) := by decide +kernel
theorem d_M_isOfFix_117 : decode b_M_isOfFix 117 = .ok (.baload, 1) := by decide +kernel
theorem d_M_isOfFix_118 : decode b_M_isOfFix 118 = .ok (.if_icmp .ne 6, 3) := by decide +kernel
theorem d_M_isOfFix_121 : decode b_M_isOfFix 121 = .ok (.goto 37, 3) := by decide +kernel
theorem d_M_isOfFix_124 : decode b_M_isOfFix 124 = .ok (.aload_n 0, 1) := by decide +kernel
theorem d_M_isOfFix_125 : decode b_M_isOfFix 125 = .ok (.getfield 32, 3) := by decide +kernel
theorem d_M_isOfFix_128 : decode b_M_isOfFix 128 = .ok (.aload_n 0, 1) := by decide +kernel
theorem d_M_isOfFix_129 : decode b_M_isOfFix 129 = .ok (.getfield 13, 3) := by decide +kernel
theorem d_M_isOfFix_132 : decode b_M_isOfFix 132 = .ok (.iconst 2, 1) := by decide +kernel
theorem d_M_isOfFix_133 : decode b_M_isOfFix 133 = .ok (.iload 4, 2) := by decide +kernel
theorem d_M_isOfFix_135 : decode b_M_isOfFix 135 = .ok (.imul, 1) := by decide +kernel
theorem d_M_isOfFix_136 : decode b_M_isOfFix 136 = .ok (.iaload, 1) := by decide +kernel
theorem d_M_isOfFix_137 : decode b_M_isOfFix 137 = .ok (.iconst 1, 1) := by decide +kernel
theorem d_M_isOfFix_138 : decode b_M_isOfFix 138 = .ok (.bastore, 1) := by decide +kernel
theorem d_M_isOfFix_139 : decode b_M_isOfFix 139 = .ok (.aload_n 0, 1) := by decide +kernel
theorem d_M_isOfFix_140 : decode b_M_isOfFix 140 = .ok (.getfield 32, 3) := by decide +kernel
theorem d_M_isOfFix_143 : decode b_M_isOfFix 143 = .ok (.aload_n 0, 1) := by decide +kernel
theorem d_M_isOfFix_144 : decode b_M_isOfFix 144 = .ok (.getfield 13, 3) := by decide +kernel
theorem d_M_isOfFix_147 : decode b_M_isOfFix 147 = .ok (.iconst 2, 1) := by decide +kernel
theorem d_M_isOfFix_148 : decode b_M_isOfFix 148 = .ok (.iload 4, 2) := by decide +kernel
theorem d_M_isOfFix_150 : decode b_M_isOfFix 150 = .ok (.imul, 1) := by decide +kernel
theorem d_M_isOfFix_151 : decode b_M_isOfFix 151 = .ok (.iconst 1, 1) := by decide +kernel
theorem d_M_isOfFix_152 : decode b_M_isOfFix 152 = .ok (.iadd, 1) := by decide +kernel
theorem d_M_isOfFix_153 : decode b_M_isOfFix 153 = .ok (.iaload, 1) := by decide +kernel
theorem d_M_isOfFix_154 : decode b_M_isOfFix 154 = .ok (.iconst 1, 1) := by decide +kernel
theorem d_M_isOfFix_155 : decode b_M_isOfFix 155 = .ok (.bastore, 1) := by decide +kernel
theorem d_M_isOfFix_156 : decode b_M_isOfFix 156 = .ok (.iconst 1, 1) := by decide +kernel
theorem d_M_isOfFix_157 : decode b_M_isOfFix 157 = .ok (.istore_n 3, 1) := by decide +kernel
theorem d_M_isOfFix_158 : decode b_M_isOfFix 158 = .ok (.iinc 4 1, 3) := by decide +kernel
theorem d_M_isOfFix_161 : decode b_M_isOfFix 161 = .ok (.goto (-102), 3) := by decide +kernel
theorem d_M_isOfFix_164 : decode b_M_isOfFix 164 = .ok (.goto (-114), 3) := by decide +kernel
theorem d_M_isOfFix_167 : decode b_M_isOfFix 167 = .ok (.iconst 0, 1) := by decide +kernel
theorem d_M_isOfFix_168 : decode b_M_isOfFix 168 = .ok (.istore 4, 2) := by decide +kernel
theorem d_M_isOfFix_170 : decode b_M_isOfFix 170 = .ok (.iconst 0, 1) := by decide +kernel
theorem d_M_isOfFix_171 : decode b_M_isOfFix 171 = .ok (.istore 5, 2) := by decide +kernel
theorem d_M_isOfFix_173 : decode b_M_isOfFix 173 = .ok (.iload 5, 2) := by decide +kernel
theorem d_M_isOfFix_175 : decode b_M_isOfFix 175 = .ok (.aload_n 0, 1) := by decide +kernel
theorem d_M_isOfFix_176 : decode b_M_isOfFix 176 = .ok (.getfield 55, 3) := by decide +kernel
theorem d_M_isOfFix_179 : decode b_M_isOfFix 179 = .ok (.if_icmp .ge 48, 3) := by decide +kernel
theorem d_M_isOfFix_182 : decode b_M_isOfFix 182 = .ok (.iload 4, 2) := by decide +kernel
theorem d_M_isOfFix_184 : decode b_M_isOfFix 184 = .ok (.aload_n 0, 1) := by decide +kernel
theorem d_M_isOfFix_185 : decode b_M_isOfFix 185 = .ok (.getfield 20, 3) := by decide +kernel
theorem d_M_isOfFix_188 : decode b_M_isOfFix 188 = .ok (.iload 5, 2) := by decide +kernel
theorem d_M_isOfFix_190 : decode b_M_isOfFix 190 = .ok (.iaload, 1) := by decide +kernel
theorem d_M_isOfFix_191 : decode b_M_isOfFix 191 = .ok (.iload_n 2, 1) := by decide +kernel
theorem d_M_isOfFix_192 : decode b_M_isOfFix 192 = .ok (.if_icmp .ne 25, 3) := by decide +kernel
theorem d_M_isOfFix_195 : decode b_M_isOfFix 195 = .ok (.aload_n 0, 1) := by decide +kernel
theorem d_M_isOfFix_196 : decode b_M_isOfFix 196 = .ok (.getfield 32, 3) := by decide +kernel
theorem d_M_isOfFix_199 : decode b_M_isOfFix 199 = .ok (.iload 5, 2) := by decide +kernel
theorem d_M_isOfFix_201 : decode b_M_isOfFix 201 = .ok (.baload, 1) := by decide +kernel
theorem d_M_isOfFix_202 : decode b_M_isOfFix 202 = .ok (.ifCond .ne 15, 3) := by decide +kernel
theorem d_M_isOfFix_205 : decode b_M_isOfFix 205 = .ok (.aload_n 0, 1) := by decide +kernel
theorem d_M_isOfFix_206 : decode b_M_isOfFix 206 = .ok (.getfield 69, 3) := by decide +kernel
theorem d_M_isOfFix_209 : decode b_M_isOfFix 209 = .ok (.iload 5, 2) := by decide +kernel
theorem d_M_isOfFix_211 : decode b_M_isOfFix 211 = .ok (.ishr, 1) := by decide +kernel
theorem d_M_isOfFix_212 : decode b_M_isOfFix 212 = .ok (.iconst 1, 1) := by decide +kernel
theorem d_M_isOfFix_213 : decode b_M_isOfFix 213 = .ok (.iand, 1) := by decide +kernel
theorem d_M_isOfFix_214 : decode b_M_isOfFix 214 = .ok (.goto 4, 3) := by decide +kernel
theorem d_M_isOfFix_217 : decode b_M_isOfFix 217 = .ok (.iconst 0, 1) := by decide +kernel
theorem d_M_isOfFix_218 : decode b_M_isOfFix 218 = .ok (.iadd, 1) := by decide +kernel
theorem d_M_isOfFix_219 : decode b_M_isOfFix 219 = .ok (.istore 4, 2) := by decide +kernel
theorem d_M_isOfFix_221 : decode b_M_isOfFix 221 = .ok (.iinc 5 1, 3) := by decide +kernel
theorem d_M_isOfFix_224 : decode b_M_isOfFix 224 = .ok (.goto (-51), 3) := by decide +kernel
theorem d_M_isOfFix_227 : decode b_M_isOfFix 227 = .ok (.iload 4, 2) := by decide +kernel
theorem d_M_isOfFix_229 : decode b_M_isOfFix 229 = .ok (.iconst 2, 1) := by decide +kernel
theorem d_M_isOfFix_230 : decode b_M_isOfFix 230 = .ok (.irem, 1) := by decide +kernel
theorem d_M_isOfFix_231 : decode b_M_isOfFix 231 = .ok (.iconst 1, 1) := by decide +kernel
theorem d_M_isOfFix_232 : decode b_M_isOfFix 232 = .ok (.if_icmp .ne 7, 3) := by decide +kernel
theorem d_M_isOfFix_235 : decode b_M_isOfFix 235 = .ok (.iconst 1, 1) := by decide +kernel
theorem d_M_isOfFix_236 : decode b_M_isOfFix 236 = .ok (.goto 4, 3) := by decide +kernel
theorem d_M_isOfFix_239 : decode b_M_isOfFix 239 = .ok (.iconst 0, 1) := by decide +kernel
theorem d_M_isOfFix_240 : decode b_M_isOfFix 240 = .ok (.ireturn, 1) := by decide +kernel
theorem d_M_grow_0 : decode b_M_grow 0 = .ok (.aload_n 0, 1) := by decide +kernel
theorem d_M_grow_1 : decode b_M_grow 1 = .ok (.iconst 0, 1) := by decide +kernel
theorem d_M_grow_2 : decode b_M_grow 2 = .ok (.putfield 51, 3) := by decide +kernel
theorem d_M_grow_5 : decode b_M_grow 5 = .ok (.aload_n 0, 1) := by decide +kernel
theorem d_M_grow_6 : decode b_M_grow 6 = .ok (.invokevirtual 97, 3) := by decide +kernel
theorem d_M_grow_9 : decode b_M_grow 9 = .ok (.istore_n 1, 1) := by decide +kernel
theorem d_M_grow_10 : decode b_M_grow 10 = .ok (.aload_n 0, 1) := by decide +kernel
theorem d_M_grow_11 : decode b_M_grow 11 = .ok (.iconst 1, 1) := by decide +kernel
theorem d_M_grow_12 : decode b_M_grow 12 = .ok (.putfield 100, 3) := by decide +kernel
theorem d_M_grow_15 : decode b_M_grow 15 = .ok (.aload_n 0, 1) := by decide +kernel
theorem d_M_grow_16 : decode b_M_grow 16 = .ok (.aload_n 0, 1) := by decide +kernel
theorem d_M_grow_17 : decode b_M_grow 17 = .ok (.getfield 55, 3) := by decide +kernel
theorem d_M_grow_20 : decode b_M_grow 20 = .ok (.putfield 103, 3) := by decide +kernel
theorem d_M_grow_23 : decode b_M_grow 23 = .ok (.aload_n 0, 1) := by decide +kernel
theorem d_M_grow_24 : decode b_M_grow 24 = .ok (.aload_n 0, 1) := by decide +kernel
theorem d_M_grow_25 : decode b_M_grow 25 = .ok (.getfield 58, 3) := by decide +kernel
theorem d_M_grow_28 : decode b_M_grow 28 = .ok (.putfield 106, 3) := by decide +kernel
theorem d_M_grow_31 : decode b_M_grow 31 = .ok (.iload_n 1, 1) := by decide +kernel
theorem d_M_grow_32 : decode b_M_grow 32 = .ok (.ifCond .ne 9, 3) := by decide +kernel
theorem d_M_grow_35 : decode b_M_grow 35 = .ok (.aload_n 0, 1) := by decide +kernel
theorem d_M_grow_36 : decode b_M_grow 36 = .ok (.iconst 1, 1) := by decide +kernel
theorem d_M_grow_37 : decode b_M_grow 37 = .ok (.invokevirtual 109, 3) := by decide +kernel
theorem d_M_grow_40 : decode b_M_grow 40 = .ok (.ireturn, 1) := by decide +kernel
theorem d_M_grow_41 : decode b_M_grow 41 = .ok (.iconst 0, 1) := by decide +kernel
theorem d_M_grow_42 : decode b_M_grow 42 = .ok (.istore_n 2, 1) := by decide +kernel
theorem d_M_grow_43 : decode b_M_grow 43 = .ok (.iload_n 2, 1) := by decide +kernel
theorem d_M_grow_44 : decode b_M_grow 44 = .ok (.aload_n 0, 1) := by decide +kernel
theorem d_M_grow_45 : decode b_M_grow 45 = .ok (.getfield 58, 3) := by decide +kernel
theorem d_M_grow_48 : decode b_M_grow 48 = .ok (.if_icmp .ge 42, 3) := by decide +kernel
theorem d_M_grow_51 : decode b_M_grow 51 = .ok (.aload_n 0, 1) := by decide +kernel
theorem d_M_grow_52 : decode b_M_grow 52 = .ok (.getfield 75, 3) := by decide +kernel
theorem d_M_grow_55 : decode b_M_grow 55 = .ok (.iload_n 2, 1) := by decide +kernel
theorem d_M_grow_56 : decode b_M_grow 56 = .ok (.lshr, 1) := by decide +kernel
theorem d_M_grow_57 : decode b_M_grow 57 = .ok (.lconst 1, 1) := by decide +kernel
theorem d_M_grow_58 : decode b_M_grow 58 = .ok (.land, 1) := by decide +kernel
theorem d_M_grow_59 : decode b_M_grow 59 = .ok (.lconst 1, 1) := by decide +kernel
theorem d_M_grow_60 : decode b_M_grow 60 = .ok (.lcmp, 1) := by decide +kernel
theorem d_M_grow_61 : decode b_M_grow 61 = .ok (.ifCond .ne 23, 3) := by decide +kernel
theorem d_M_grow_64 : decode b_M_grow 64 = .ok (.aload_n 0, 1) := by decide +kernel
theorem d_M_grow_65 : decode b_M_grow 65 = .ok (.iload_n 2, 1) := by decide +kernel
theorem d_M_grow_66 : decode b_M_grow 66 = .ok (.invokevirtual 112, 3) := by decide +kernel
theorem d_M_grow_69 : decode b_M_grow 69 = .ok (.ifCond .eq 15, 3) := by decide +kernel
theorem d_M_grow_72 : decode b_M_grow 72 = .ok (.aload_n 0, 1) := by decide +kernel
theorem d_M_grow_73 : decode b_M_grow 73 = .ok (.dup, 1) := by decide +kernel
theorem d_M_grow_74 : decode b_M_grow 74 = .ok (.getfield 79, 3) := by decide +kernel
theorem d_M_grow_77 : decode b_M_grow 77 = .ok (.lconst 1, 1) := by decide +kernel
theorem d_M_grow_78 : decode b_M_grow 78 = .ok (.iload_n 2, 1) := by decide +kernel
theorem d_M_grow_79 : decode b_M_grow 79 = .ok (.lshl, 1) := by decide +kernel
theorem d_M_grow_80 : decode b_M_grow 80 = .ok (.lor, 1) := by decide +kernel
theorem d_M_grow_81 : decode b_M_grow 81 = .ok (.putfield 79, 3) := by decide +kernel
theorem d_M_grow_84 : decode b_M_grow 84 = .ok (.iinc 2 1, 3) := by decide +kernel
theorem d_M_grow_87 : decode b_M_grow 87 = .ok (.goto (-44), 3) := by decide +kernel
theorem d_M_grow_90 : decode b_M_grow 90 = .ok (.aload_n 0, 1) := by decide +kernel
theorem d_M_grow_91 : decode b_M_grow 91 = .ok (.getfield 72, 3) := by decide +kernel
theorem d_M_grow_94 : decode b_M_grow 94 = .ok (.ireturn, 1) := by decide +kernel
theorem d_M_cluster_0 : decode b_M_cluster 0 = .ok (.aload_n 0, 1) := by decide +kernel
theorem d_M_cluster_1 : decode b_M_cluster 1 = .ok (.iconst 0, 1) := by decide +kernel
theorem d_M_cluster_2 : decode b_M_cluster 2 = .ok (.putfield 51, 3) := by decide +kernel
theorem d_M_cluster_5 : decode b_M_cluster 5 = .ok (.aload_n 0, 1) := by decide +kernel
theorem d_M_cluster_6 : decode b_M_cluster 6 = .ok (.getfield 100, 3) := by decide +kernel
theorem d_M_cluster_9 : decode b_M_cluster 9 = .ok (.ifCond .eq 24, 3) := by decide +kernel
theorem d_M_cluster_12 : decode b_M_cluster 12 = .ok (.iload_n 1, 1) := by decide +kernel
theorem d_M_cluster_13 : decode b_M_cluster 13 = .ok (.ifCond .lt 20, 3) := by decide +kernel
theorem d_M_cluster_16 : decode b_M_cluster 16 = .ok (.iload_n 1, 1) := by decide +kernel
theorem d_M_cluster_17 : decode b_M_cluster 17 = .ok (.aload_n 0, 1) := by decide +kernel
theorem d_M_cluster_18 : decode b_M_cluster 18 = .ok (.getfield 103, 3) := by decide +kernel
theorem d_M_cluster_21 : decode b_M_cluster 21 = .ok (.if_icmp .ge 12, 3) := by decide +kernel
theorem d_M_cluster_24 : decode b_M_cluster 24 = .ok (.aload_n 0, 1) := by decide +kernel
theorem d_M_cluster_25 : decode b_M_cluster 25 = .ok (.getfield 20, 3) := by decide +kernel
theorem d_M_cluster_28 : decode b_M_cluster 28 = .ok (.iload_n 1, 1) := by decide +kernel
theorem d_M_cluster_29 : decode b_M_cluster 29 = .ok (.iaload, 1) := by decide +kernel
theorem d_M_cluster_30 : decode b_M_cluster 30 = .ok (.goto 4, 3) := by decide +kernel
theorem d_M_cluster_33 : decode b_M_cluster 33 = .ok (.iconst (-1), 1) := by decide +kernel
theorem d_M_cluster_34 : decode b_M_cluster 34 = .ok (.ireturn, 1) := by decide +kernel
theorem d_M_size_0 : decode b_M_size 0 = .ok (.aload_n 0, 1) := by decide +kernel
theorem d_M_size_1 : decode b_M_size 1 = .ok (.iconst 0, 1) := by decide +kernel
theorem d_M_size_2 : decode b_M_size 2 = .ok (.putfield 51, 3) := by decide +kernel
theorem d_M_size_5 : decode b_M_size 5 = .ok (.aload_n 0, 1) := by decide +kernel
theorem d_M_size_6 : decode b_M_size 6 = .ok (.getfield 100, 3) := by decide +kernel
theorem d_M_size_9 : decode b_M_size 9 = .ok (.ifCond .eq 24, 3) := by decide +kernel
theorem d_M_size_12 : decode b_M_size 12 = .ok (.iload_n 1, 1) := by decide +kernel
theorem d_M_size_13 : decode b_M_size 13 = .ok (.ifCond .lt 20, 3) := by decide +kernel
theorem d_M_size_16 : decode b_M_size 16 = .ok (.iload_n 1, 1) := by decide +kernel
theorem d_M_size_17 : decode b_M_size 17 = .ok (.aload_n 0, 1) := by decide +kernel
theorem d_M_size_18 : decode b_M_size 18 = .ok (.getfield 106, 3) := by decide +kernel
theorem d_M_size_21 : decode b_M_size 21 = .ok (.if_icmp .ge 12, 3) := by decide +kernel
theorem d_M_size_24 : decode b_M_size 24 = .ok (.aload_n 0, 1) := by decide +kernel
theorem d_M_size_25 : decode b_M_size 25 = .ok (.getfield 23, 3) := by decide +kernel
theorem d_M_size_28 : decode b_M_size 28 = .ok (.iload_n 1, 1) := by decide +kernel
theorem d_M_size_29 : decode b_M_size 29 = .ok (.iaload, 1) := by decide +kernel
theorem d_M_size_30 : decode b_M_size 30 = .ok (.goto 4, 3) := by decide +kernel
theorem d_M_size_33 : decode b_M_size 33 = .ok (.iconst (-1), 1) := by decide +kernel
theorem d_M_size_34 : decode b_M_size 34 = .ok (.ireturn, 1) := by decide +kernel
theorem d_M_grown_0 : decode b_M_grown 0 = .ok (.aload_n 0, 1) := by decide +kernel
theorem d_M_grown_1 : decode b_M_grown 1 = .ok (.iconst 0, 1) := by decide +kernel
theorem d_M_grown_2 : decode b_M_grown 2 = .ok (.putfield 51, 3) := by decide +kernel
theorem d_M_grown_5 : decode b_M_grown 5 = .ok (.iload_n 1, 1) := by decide +kernel
theorem d_M_grown_6 : decode b_M_grown 6 = .ok (.ifCond .ne 10, 3) := by decide +kernel
theorem d_M_grown_9 : decode b_M_grown 9 = .ok (.aload_n 0, 1) := by decide +kernel
theorem d_M_grown_10 : decode b_M_grown 10 = .ok (.getfield 75, 3) := by decide +kernel
theorem d_M_grown_13 : decode b_M_grown 13 = .ok (.goto 18, 3) := by decide +kernel
theorem d_M_grown_16 : decode b_M_grown 16 = .ok (.iload_n 1, 1) := by decide +kernel
theorem d_M_grown_17 : decode b_M_grown 17 = .ok (.iconst 1, 1) := by decide +kernel
theorem d_M_grown_18 : decode b_M_grown 18 = .ok (.if_icmp .ne 10, 3) := by decide +kernel
theorem d_M_grown_21 : decode b_M_grown 21 = .ok (.aload_n 0, 1) := by decide +kernel
theorem d_M_grown_22 : decode b_M_grown 22 = .ok (.getfield 79, 3) := by decide +kernel
theorem d_M_grown_25 : decode b_M_grown 25 = .ok (.goto 6, 3) := by decide +kernel
theorem d_M_grown_28 : decode b_M_grown 28 = .ok (.ldc2_w 115, 3) := by decide +kernel
theorem d_M_grown_31 : decode b_M_grown 31 = .ok (.lreturn, 1) := by decide +kernel
theorem d_M_within_0 : decode b_M_within 0 = .ok (.iload_n 0, 1) := by decide +kernel
theorem d_M_within_1 : decode b_M_within 1 = .ok (.sipush 1000, 3) := by decide +kernel
theorem d_M_within_4 : decode b_M_within 4 = .ok (.if_icmp .le 9, 3) := by decide +kernel
theorem d_M_within_7 : decode b_M_within 7 = .ok (.sipush 1000, 3) := by decide +kernel
theorem d_M_within_10 : decode b_M_within 10 = .ok (.goto 17, 3) := by decide +kernel
theorem d_M_within_13 : decode b_M_within 13 = .ok (.iload_n 0, 1) := by decide +kernel
theorem d_M_within_14 : decode b_M_within 14 = .ok (.sipush (-1000), 3) := by decide +kernel
theorem d_M_within_17 : decode b_M_within 17 = .ok (.if_icmp .ge 9, 3) := by decide +kernel
theorem d_M_within_20 : decode b_M_within 20 = .ok (.sipush (-1000), 3) := by decide +kernel
theorem d_M_within_23 : decode b_M_within 23 = .ok (.goto 4, 3) := by decide +kernel
theorem d_M_within_26 : decode b_M_within 26 = .ok (.iload_n 0, 1) := by decide +kernel
theorem d_M_within_27 : decode b_M_within 27 = .ok (.ireturn, 1) := by decide +kernel
theorem d_M_isInner_0 : decode b_M_isInner 0 = .ok (.aload_n 0, 1) := by decide +kernel
theorem d_M_isInner_1 : decode b_M_isInner 1 = .ok (.getfield 7, 3) := by decide +kernel
theorem d_M_isInner_4 : decode b_M_isInner 4 = .ok (.aload_n 0, 1) := by decide +kernel
theorem d_M_isInner_5 : decode b_M_isInner 5 = .ok (.getfield 13, 3) := by decide +kernel
theorem d_M_isInner_8 : decode b_M_isInner 8 = .ok (.iload_n 1, 1) := by decide +kernel
theorem d_M_isInner_9 : decode b_M_isInner 9 = .ok (.iaload, 1) := by decide +kernel
theorem d_M_isInner_10 : decode b_M_isInner 10 = .ok (.baload, 1) := by decide +kernel
theorem d_M_isInner_11 : decode b_M_isInner 11 = .ok (.ifCond .ne 7, 3) := by decide +kernel
theorem d_M_isInner_14 : decode b_M_isInner 14 = .ok (.iconst 1, 1) := by decide +kernel
theorem d_M_isInner_15 : decode b_M_isInner 15 = .ok (.goto 4, 3) := by decide +kernel
theorem d_M_isInner_18 : decode b_M_isInner 18 = .ok (.iconst 0, 1) := by decide +kernel
theorem d_M_isInner_19 : decode b_M_isInner 19 = .ok (.ireturn, 1) := by decide +kernel
theorem d_M_sendToPoints_0 : decode b_M_sendToPoints 0 = .ok (.iconst 0, 1) := by decide +kernel
theorem d_M_sendToPoints_1 : decode b_M_sendToPoints 1 = .ok (.istore_n 1, 1) := by decide +kernel
theorem d_M_sendToPoints_2 : decode b_M_sendToPoints 2 = .ok (.iload_n 1, 1) := by decide +kernel
theorem d_M_sendToPoints_3 : decode b_M_sendToPoints 3 = .ok (.iconst 2, 1) := by decide +kernel
theorem d_M_sendToPoints_4 : decode b_M_sendToPoints 4 = .ok (.aload_n 0, 1) := by decide +kernel
theorem d_M_sendToPoints_5 : decode b_M_sendToPoints 5 = .ok (.getfield 58, 3) := by decide +kernel
theorem d_M_sendToPoints_8 : decode b_M_sendToPoints 8 = .ok (.imul, 1) := by decide +kernel
theorem d_M_sendToPoints_9 : decode b_M_sendToPoints 9 = .ok (.if_icmp .ge 47, 3) := by decide +kernel
theorem d_M_sendToPoints_12 : decode b_M_sendToPoints 12 = .ok (.aload_n 0, 1) := by decide +kernel
theorem d_M_sendToPoints_13 : decode b_M_sendToPoints 13 = .ok (.getfield 38, 3) := by decide +kernel
theorem d_M_sendToPoints_16 : decode b_M_sendToPoints 16 = .ok (.iload_n 1, 1) := by decide +kernel
theorem d_M_sendToPoints_17 : decode b_M_sendToPoints 17 = .ok (.aload_n 0, 1) := by decide +kernel
theorem d_M_sendToPoints_18 : decode b_M_sendToPoints 18 = .ok (.iload_n 1, 1) := by decide +kernel
theorem d_M_sendToPoints_19 : decode b_M_sendToPoints 19 = .ok (.invokevirtual 117, 3) := by decide +kernel
theorem d_M_sendToPoints_22 : decode b_M_sendToPoints 22 = .ok (.ifCond .eq 26, 3) := by decide +kernel
theorem d_M_sendToPoints_25 : decode b_M_sendToPoints 25 = .ok (.aload_n 0, 1) := by decide +kernel
theorem d_M_sendToPoints_26 : decode b_M_sendToPoints 26 = .ok (.getfield 17, 3) := by decide +kernel
theorem d_M_sendToPoints_29 : decode b_M_sendToPoints 29 = .ok (.iload_n 1, 1) := by decide +kernel
theorem d_M_sendToPoints_30 : decode b_M_sendToPoints 30 = .ok (.iconst 2, 1) := by decide +kernel
theorem d_M_sendToPoints_31 : decode b_M_sendToPoints 31 = .ok (.idiv, 1) := by decide +kernel
theorem d_M_sendToPoints_32 : decode b_M_sendToPoints 32 = .ok (.iaload, 1) := by decide +kernel
theorem d_M_sendToPoints_33 : decode b_M_sendToPoints 33 = .ok (.aload_n 0, 1) := by decide +kernel
theorem d_M_sendToPoints_34 : decode b_M_sendToPoints 34 = .ok (.getfield 35, 3) := by decide +kernel
theorem d_M_sendToPoints_37 : decode b_M_sendToPoints 37 = .ok (.iload_n 1, 1) := by decide +kernel
theorem d_M_sendToPoints_38 : decode b_M_sendToPoints 38 = .ok (.iconst 1, 1) := by decide +kernel
theorem d_M_sendToPoints_39 : decode b_M_sendToPoints 39 = .ok (.ixor, 1) := by decide +kernel
theorem d_M_sendToPoints_40 : decode b_M_sendToPoints 40 = .ok (.iaload, 1) := by decide +kernel
theorem d_M_sendToPoints_41 : decode b_M_sendToPoints 41 = .ok (.iadd, 1) := by decide +kernel
theorem d_M_sendToPoints_42 : decode b_M_sendToPoints 42 = .ok (.invokestatic 120, 3) := by decide +kernel
theorem d_M_sendToPoints_45 : decode b_M_sendToPoints 45 = .ok (.goto 4, 3) := by decide +kernel
theorem d_M_sendToPoints_48 : decode b_M_sendToPoints 48 = .ok (.iconst 0, 1) := by decide +kernel
theorem d_M_sendToPoints_49 : decode b_M_sendToPoints 49 = .ok (.iastore, 1) := by decide +kernel
theorem d_M_sendToPoints_50 : decode b_M_sendToPoints 50 = .ok (.iinc 1 1, 3) := by decide +kernel
theorem d_M_sendToPoints_53 : decode b_M_sendToPoints 53 = .ok (.goto (-51), 3) := by decide +kernel
theorem d_M_sendToPoints_56 : decode b_M_sendToPoints 56 = .ok (.return_, 1) := by decide +kernel
theorem d_M_answerOf_0 : decode b_M_answerOf 0 = .ok (.aload_n 0, 1) := by decide +kernel
theorem d_M_answerOf_1 : decode b_M_answerOf 1 = .ok (.getfield 13, 3) := by decide +kernel
theorem d_M_answerOf_4 : decode b_M_answerOf 4 = .ok (.iload_n 1, 1) := by decide +kernel
theorem d_M_answerOf_5 : decode b_M_answerOf 5 = .ok (.iaload, 1) := by decide +kernel
theorem d_M_answerOf_6 : decode b_M_answerOf 6 = .ok (.istore_n 2, 1) := by decide +kernel
theorem d_M_answerOf_7 : decode b_M_answerOf 7 = .ok (.sipush 1000, 3) := by decide +kernel
theorem d_M_answerOf_10 : decode b_M_answerOf 10 = .ok (.istore_n 3, 1) := by decide +kernel
theorem d_M_answerOf_11 : decode b_M_answerOf 11 = .ok (.aload_n 0, 1) := by decide +kernel
theorem d_M_answerOf_12 : decode b_M_answerOf 12 = .ok (.getfield 69, 3) := by decide +kernel
theorem d_M_answerOf_15 : decode b_M_answerOf 15 = .ok (.iload_n 2, 1) := by decide +kernel
theorem d_M_answerOf_16 : decode b_M_answerOf 16 = .ok (.ishr, 1) := by decide +kernel
theorem d_M_answerOf_17 : decode b_M_answerOf 17 = .ok (.iconst 1, 1) := by decide +kernel
theorem d_M_answerOf_18 : decode b_M_answerOf 18 = .ok (.iand, 1) := by decide +kernel
theorem d_M_answerOf_19 : decode b_M_answerOf 19 = .ok (.iconst 1, 1) := by decide +kernel
theorem d_M_answerOf_20 : decode b_M_answerOf 20 = .ok (.if_icmp .ne 7, 3) := by decide +kernel
theorem d_M_answerOf_23 : decode b_M_answerOf 23 = .ok (.iconst 1, 1) := by decide +kernel
theorem d_M_answerOf_24 : decode b_M_answerOf 24 = .ok (.goto 4, 3) := by decide +kernel
theorem d_M_answerOf_27 : decode b_M_answerOf 27 = .ok (.iconst 0, 1) := by decide +kernel
theorem d_M_answerOf_28 : decode b_M_answerOf 28 = .ok (.istore 4, 2) := by decide +kernel
theorem d_M_answerOf_30 : decode b_M_answerOf 30 = .ok (.iconst 0, 1) := by decide +kernel
theorem d_M_answerOf_31 : decode b_M_answerOf 31 = .ok (.istore 5, 2) := by decide +kernel
theorem d_M_answerOf_33 : decode b_M_answerOf 33 = .ok (.iload 5, 2) := by decide +kernel
theorem d_M_answerOf_35 : decode b_M_answerOf 35 = .ok (.iconst 2, 1) := by decide +kernel
theorem d_M_answerOf_36 : decode b_M_answerOf 36 = .ok (.aload_n 0, 1) := by decide +kernel
theorem d_M_answerOf_37 : decode b_M_answerOf 37 = .ok (.getfield 58, 3) := by decide +kernel
theorem d_M_answerOf_40 : decode b_M_answerOf 40 = .ok (.imul, 1) := by decide +kernel
theorem d_M_answerOf_41 : decode b_M_answerOf 41 = .ok (.if_icmp .ge 96, 3) := by decide +kernel
theorem d_M_answerOf_44 : decode b_M_answerOf 44 = .ok (.aload_n 0, 1) := by decide +kernel
theorem d_M_answerOf_45 : decode b_M_answerOf 45 = .ok (.getfield 13, 3) := by decide +kernel
theorem d_M_answerOf_48 : decode b_M_answerOf 48 = .ok (.iload 5, 2) := by decide +kernel
theorem d_M_answerOf_50 : decode b_M_answerOf 50 = .ok (.iaload, 1) := by decide +kernel
theorem d_M_answerOf_51 : decode b_M_answerOf 51 = .ok (.iload_n 2, 1) := by decide +kernel
theorem d_M_answerOf_52 : decode b_M_answerOf 52 = .ok (.if_icmp .ne 79, 3) := by decide +kernel
theorem d_M_answerOf_55 : decode b_M_answerOf 55 = .ok (.iload 5, 2) := by decide +kernel
theorem d_M_answerOf_57 : decode b_M_answerOf 57 = .ok (.iload_n 1, 1) := by decide +kernel
theorem d_M_answerOf_58 : decode b_M_answerOf 58 = .ok (.if_icmp .ne 6, 3) := by decide +kernel
theorem d_M_answerOf_61 : decode b_M_answerOf 61 = .ok (.goto 70, 3) := by decide +kernel
theorem d_M_answerOf_64 : decode b_M_answerOf 64 = .ok (.aload_n 0, 1) := by decide +kernel
theorem d_M_answerOf_65 : decode b_M_answerOf 65 = .ok (.getfield 38, 3) := by decide +kernel
theorem d_M_answerOf_68 : decode b_M_answerOf 68 = .ok (.iload 5, 2) := by decide +kernel
theorem d_M_answerOf_70 : decode b_M_answerOf 70 = .ok (.iaload, 1) := by decide +kernel
theorem d_M_answerOf_71 : decode b_M_answerOf 71 = .ok (.istore 6, 2) := by decide +kernel
theorem d_M_answerOf_73 : decode b_M_answerOf 73 = .ok (.iload 4, 2) := by decide +kernel
theorem d_M_answerOf_75 : decode b_M_answerOf 75 = .ok (.iload 6, 2) := by decide +kernel
theorem d_M_answerOf_77 : decode b_M_answerOf 77 = .ok (.ifCond .ge 7, 3) := by decide +kernel
theorem d_M_answerOf_80 : decode b_M_answerOf 80 = .ok (.iconst 1, 1) := by decide +kernel
theorem d_M_answerOf_81 : decode b_M_answerOf 81 = .ok (.goto 4, 3) := by decide +kernel
theorem d_M_answerOf_84 : decode b_M_answerOf 84 = .ok (.iconst 0, 1) := by decide +kernel
theorem d_M_answerOf_85 : decode b_M_answerOf 85 = .ok (.if_icmp .eq 7, 3) := by decide +kernel
theorem d_M_answerOf_88 : decode b_M_answerOf 88 = .ok (.iconst 1, 1) := by decide +kernel
theorem d_M_answerOf_89 : decode b_M_answerOf 89 = .ok (.goto 4, 3) := by decide +kernel
theorem d_M_answerOf_92 : decode b_M_answerOf 92 = .ok (.iconst 0, 1) := by decide +kernel
theorem d_M_answerOf_93 : decode b_M_answerOf 93 = .ok (.istore 4, 2) := by decide +kernel
theorem d_M_answerOf_95 : decode b_M_answerOf 95 = .ok (.iload 6, 2) := by decide +kernel
theorem d_M_answerOf_97 : decode b_M_answerOf 97 = .ok (.ifCond .ge 16, 3) := by decide +kernel
theorem d_M_answerOf_100 : decode b_M_answerOf 100 = .ok (.iload 6, 2) := by decide +kernel
theorem d_M_answerOf_102 : decode b_M_answerOf 102 = .ok (.ineg, 1) := by decide +kernel
theorem d_M_answerOf_103 : decode b_M_answerOf 103 = .ok (.iload_n 3, 1) := by decide +kernel
theorem d_M_answerOf_104 : decode b_M_answerOf 104 = .ok (.if_icmp .ge 9, 3) := by decide +kernel
theorem d_M_answerOf_107 : decode b_M_answerOf 107 = .ok (.iload 6, 2) := by decide +kernel
theorem d_M_answerOf_109 : decode b_M_answerOf 109 = .ok (.ineg, 1) := by decide +kernel
theorem d_M_answerOf_110 : decode b_M_answerOf 110 = .ok (.goto 20, 3) := by decide +kernel
theorem d_M_answerOf_113 : decode b_M_answerOf 113 = .ok (.iload 6, 2) := by decide +kernel
theorem d_M_answerOf_115 : decode b_M_answerOf 115 = .ok (.ifCond .lt 14, 3) := by decide +kernel
theorem d_M_answerOf_118 : decode b_M_answerOf 118 = .ok (.iload 6, 2) := by decide +kernel
theorem d_M_answerOf_120 : decode b_M_answerOf 120 = .ok (.iload_n 3, 1) := by decide +kernel
theorem d_M_answerOf_121 : decode b_M_answerOf 121 = .ok (.if_icmp .ge 8, 3) := by decide +kernel
theorem d_M_answerOf_124 : decode b_M_answerOf 124 = .ok (.iload 6, 2) := by decide +kernel
theorem d_M_answerOf_126 : decode b_M_answerOf 126 = .ok (.goto 4, 3) := by decide +kernel
theorem d_M_answerOf_129 : decode b_M_answerOf 129 = .ok (.iload_n 3, 1) := by decide +kernel
theorem d_M_answerOf_130 : decode b_M_answerOf 130 = .ok (.istore_n 3, 1) := by decide +kernel
theorem d_M_answerOf_131 : decode b_M_answerOf 131 = .ok (.iinc 5 1, 3) := by decide +kernel
theorem d_M_answerOf_134 : decode b_M_answerOf 134 = .ok (.goto (-101), 3) := by decide +kernel
theorem d_M_answerOf_137 : decode b_M_answerOf 137 = .ok (.iload 4, 2) := by decide +kernel
theorem d_M_answerOf_139 : decode b_M_answerOf 139 = .ok (.ifCond .eq 8, 3) := by decide +kernel
theorem d_M_answerOf_142 : decode b_M_answerOf 142 = .ok (.iload_n 3, 1) := by decide +kernel
theorem d_M_answerOf_143 : decode b_M_answerOf 143 = .ok (.ineg, 1) := by decide +kernel
theorem d_M_answerOf_144 : decode b_M_answerOf 144 = .ok (.goto 4, 3) := by decide +kernel
theorem d_M_answerOf_147 : decode b_M_answerOf 147 = .ok (.iload_n 3, 1) := by decide +kernel
theorem d_M_answerOf_148 : decode b_M_answerOf 148 = .ok (.ireturn, 1) := by decide +kernel
theorem d_M_sendToEdges_0 : decode b_M_sendToEdges 0 = .ok (.iconst 0, 1) := by decide +kernel
theorem d_M_sendToEdges_1 : decode b_M_sendToEdges 1 = .ok (.istore_n 1, 1) := by decide +kernel
theorem d_M_sendToEdges_2 : decode b_M_sendToEdges 2 = .ok (.iload_n 1, 1) := by decide +kernel
theorem d_M_sendToEdges_3 : decode b_M_sendToEdges 3 = .ok (.iconst 2, 1) := by decide +kernel
theorem d_M_sendToEdges_4 : decode b_M_sendToEdges 4 = .ok (.aload_n 0, 1) := by decide +kernel
theorem d_M_sendToEdges_5 : decode b_M_sendToEdges 5 = .ok (.getfield 58, 3) := by decide +kernel
theorem d_M_sendToEdges_8 : decode b_M_sendToEdges 8 = .ok (.imul, 1) := by decide +kernel
theorem d_M_sendToEdges_9 : decode b_M_sendToEdges 9 = .ok (.if_icmp .ge 32, 3) := by decide +kernel
theorem d_M_sendToEdges_12 : decode b_M_sendToEdges 12 = .ok (.aload_n 0, 1) := by decide +kernel
theorem d_M_sendToEdges_13 : decode b_M_sendToEdges 13 = .ok (.getfield 35, 3) := by decide +kernel
theorem d_M_sendToEdges_16 : decode b_M_sendToEdges 16 = .ok (.iload_n 1, 1) := by decide +kernel
theorem d_M_sendToEdges_17 : decode b_M_sendToEdges 17 = .ok (.aload_n 0, 1) := by decide +kernel
theorem d_M_sendToEdges_18 : decode b_M_sendToEdges 18 = .ok (.iload_n 1, 1) := by decide +kernel
theorem d_M_sendToEdges_19 : decode b_M_sendToEdges 19 = .ok (.invokevirtual 117, 3) := by decide +kernel
theorem d_M_sendToEdges_22 : decode b_M_sendToEdges 22 = .ok (.ifCond .eq 11, 3) := by decide +kernel
theorem d_M_sendToEdges_25 : decode b_M_sendToEdges 25 = .ok (.aload_n 0, 1) := by decide +kernel
theorem d_M_sendToEdges_26 : decode b_M_sendToEdges 26 = .ok (.iload_n 1, 1) := by decide +kernel
theorem d_M_sendToEdges_27 : decode b_M_sendToEdges 27 = .ok (.invokevirtual 123, 3) := by decide +kernel
theorem d_M_sendToEdges_30 : decode b_M_sendToEdges 30 = .ok (.goto 4, 3) := by decide +kernel
theorem d_M_sendToEdges_33 : decode b_M_sendToEdges 33 = .ok (.iconst 0, 1) := by decide +kernel
theorem d_M_sendToEdges_34 : decode b_M_sendToEdges 34 = .ok (.iastore, 1) := by decide +kernel
theorem d_M_sendToEdges_35 : decode b_M_sendToEdges 35 = .ok (.iinc 1 1, 3) := by decide +kernel
theorem d_M_sendToEdges_38 : decode b_M_sendToEdges 38 = .ok (.goto (-36), 3) := by decide +kernel
theorem d_M_sendToEdges_41 : decode b_M_sendToEdges 41 = .ok (.return_, 1) := by decide +kernel
theorem d_M_belief_0 : decode b_M_belief 0 = .ok (.aload_n 0, 1) := by decide +kernel
theorem d_M_belief_1 : decode b_M_belief 1 = .ok (.getfield 17, 3) := by decide +kernel
theorem d_M_belief_4 : decode b_M_belief 4 = .ok (.iload_n 1, 1) := by decide +kernel
theorem d_M_belief_5 : decode b_M_belief 5 = .ok (.iaload, 1) := by decide +kernel
theorem d_M_belief_6 : decode b_M_belief 6 = .ok (.aload_n 0, 1) := by decide +kernel
theorem d_M_belief_7 : decode b_M_belief 7 = .ok (.getfield 35, 3) := by decide +kernel
theorem d_M_belief_10 : decode b_M_belief 10 = .ok (.iconst 2, 1) := by decide +kernel
theorem d_M_belief_11 : decode b_M_belief 11 = .ok (.iload_n 1, 1) := by decide +kernel
theorem d_M_belief_12 : decode b_M_belief 12 = .ok (.imul, 1) := by decide +kernel
theorem d_M_belief_13 : decode b_M_belief 13 = .ok (.iaload, 1) := by decide +kernel
theorem d_M_belief_14 : decode b_M_belief 14 = .ok (.iadd, 1) := by decide +kernel
theorem d_M_belief_15 : decode b_M_belief 15 = .ok (.aload_n 0, 1) := by decide +kernel
theorem d_M_belief_16 : decode b_M_belief 16 = .ok (.getfield 35, 3) := by decide +kernel
theorem d_M_belief_19 : decode b_M_belief 19 = .ok (.iconst 2, 1) := by decide +kernel
theorem d_M_belief_20 : decode b_M_belief 20 = .ok (.iload_n 1, 1) := by decide +kernel
theorem d_M_belief_21 : decode b_M_belief 21 = .ok (.imul, 1) := by decide +kernel
theorem d_M_belief_22 : decode b_M_belief 22 = .ok (.iconst 1, 1) := by decide +kernel
theorem d_M_belief_23 : decode b_M_belief 23 = .ok (.iadd, 1) := by decide +kernel
theorem d_M_belief_24 : decode b_M_belief 24 = .ok (.iaload, 1) := by decide +kernel
theorem d_M_belief_25 : decode b_M_belief 25 = .ok (.iadd, 1) := by decide +kernel
theorem d_M_belief_26 : decode b_M_belief 26 = .ok (.ireturn, 1) := by decide +kernel
theorem d_M_guessed_0 : decode b_M_guessed 0 = .ok (.lconst 0, 1) := by decide +kernel
theorem d_M_guessed_1 : decode b_M_guessed 1 = .ok (.lstore_n 1, 1) := by decide +kernel
theorem d_M_guessed_2 : decode b_M_guessed 2 = .ok (.iconst 0, 1) := by decide +kernel
theorem d_M_guessed_3 : decode b_M_guessed 3 = .ok (.istore_n 3, 1) := by decide +kernel
theorem d_M_guessed_4 : decode b_M_guessed 4 = .ok (.iload_n 3, 1) := by decide +kernel
theorem d_M_guessed_5 : decode b_M_guessed 5 = .ok (.aload_n 0, 1) := by decide +kernel
theorem d_M_guessed_6 : decode b_M_guessed 6 = .ok (.getfield 58, 3) := by decide +kernel
theorem d_M_guessed_9 : decode b_M_guessed 9 = .ok (.if_icmp .ge 27, 3) := by decide +kernel
theorem d_M_guessed_12 : decode b_M_guessed 12 = .ok (.lload_n 1, 1) := by decide +kernel
theorem d_M_guessed_13 : decode b_M_guessed 13 = .ok (.aload_n 0, 1) := by decide +kernel
theorem d_M_guessed_14 : decode b_M_guessed 14 = .ok (.iload_n 3, 1) := by decide +kernel
theorem d_M_guessed_15 : decode b_M_guessed 15 = .ok (.invokevirtual 126, 3) := by decide +kernel
theorem d_M_guessed_18 : decode b_M_guessed 18 = .ok (.ifCond .ge 9, 3) := by decide +kernel
theorem d_M_guessed_21 : decode b_M_guessed 21 = .ok (.lconst 1, 1) := by decide +kernel
theorem d_M_guessed_22 : decode b_M_guessed 22 = .ok (.iload_n 3, 1) := by decide +kernel
theorem d_M_guessed_23 : decode b_M_guessed 23 = .ok (.lshl, 1) := by decide +kernel
theorem d_M_guessed_24 : decode b_M_guessed 24 = .ok (.goto 4, 3) := by decide +kernel
theorem d_M_guessed_27 : decode b_M_guessed 27 = .ok (.lconst 0, 1) := by decide +kernel
theorem d_M_guessed_28 : decode b_M_guessed 28 = .ok (.lor, 1) := by decide +kernel
theorem d_M_guessed_29 : decode b_M_guessed 29 = .ok (.lstore_n 1, 1) := by decide +kernel
theorem d_M_guessed_30 : decode b_M_guessed 30 = .ok (.iinc 3 1, 3) := by decide +kernel
theorem d_M_guessed_33 : decode b_M_guessed 33 = .ok (.goto (-29), 3) := by decide +kernel
theorem d_M_guessed_36 : decode b_M_guessed 36 = .ok (.lload_n 1, 1) := by decide +kernel
theorem d_M_guessed_37 : decode b_M_guessed 37 = .ok (.lreturn, 1) := by decide +kernel
theorem d_M_believe_0 : decode b_M_believe 0 = .ok (.aload_n 0, 1) := by decide +kernel
theorem d_M_believe_1 : decode b_M_believe 1 = .ok (.iconst 0, 1) := by decide +kernel
theorem d_M_believe_2 : decode b_M_believe 2 = .ok (.putfield 51, 3) := by decide +kernel
theorem d_M_believe_5 : decode b_M_believe 5 = .ok (.iload_n 1, 1) := by decide +kernel
theorem d_M_believe_6 : decode b_M_believe 6 = .ok (.iconst 1, 1) := by decide +kernel
theorem d_M_believe_7 : decode b_M_believe 7 = .ok (.if_icmp .lt 9, 3) := by decide +kernel
theorem d_M_believe_10 : decode b_M_believe 10 = .ok (.iload_n 1, 1) := by decide +kernel
theorem d_M_believe_11 : decode b_M_believe 11 = .ok (.bipush 40, 2) := by decide +kernel
theorem d_M_believe_13 : decode b_M_believe 13 = .ok (.if_icmp .le 5, 3) := by decide +kernel
theorem d_M_believe_16 : decode b_M_believe 16 = .ok (.iconst (-1), 1) := by decide +kernel
theorem d_M_believe_17 : decode b_M_believe 17 = .ok (.ireturn, 1) := by decide +kernel
theorem d_M_believe_18 : decode b_M_believe 18 = .ok (.aload_n 0, 1) := by decide +kernel
theorem d_M_believe_19 : decode b_M_believe 19 = .ok (.iconst 1, 1) := by decide +kernel
theorem d_M_believe_20 : decode b_M_believe 20 = .ok (.putfield 61, 3) := by decide +kernel
theorem d_M_believe_23 : decode b_M_believe 23 = .ok (.iconst 0, 1) := by decide +kernel
theorem d_M_believe_24 : decode b_M_believe 24 = .ok (.istore_n 2, 1) := by decide +kernel
theorem d_M_believe_25 : decode b_M_believe 25 = .ok (.iload_n 2, 1) := by decide +kernel
theorem d_M_believe_26 : decode b_M_believe 26 = .ok (.bipush 120, 2) := by decide +kernel
theorem d_M_believe_28 : decode b_M_believe 28 = .ok (.if_icmp .ge 16, 3) := by decide +kernel
theorem d_M_believe_31 : decode b_M_believe 31 = .ok (.aload_n 0, 1) := by decide +kernel
theorem d_M_believe_32 : decode b_M_believe 32 = .ok (.getfield 35, 3) := by decide +kernel
theorem d_M_believe_35 : decode b_M_believe 35 = .ok (.iload_n 2, 1) := by decide +kernel
theorem d_M_believe_36 : decode b_M_believe 36 = .ok (.iconst 0, 1) := by decide +kernel
theorem d_M_believe_37 : decode b_M_believe 37 = .ok (.iastore, 1) := by decide +kernel
theorem d_M_believe_38 : decode b_M_believe 38 = .ok (.iinc 2 1, 3) := by decide +kernel
theorem d_M_believe_41 : decode b_M_believe 41 = .ok (.goto (-16), 3) := by decide +kernel
theorem d_M_believe_44 : decode b_M_believe 44 = .ok (.iconst 1, 1) := by decide +kernel
theorem d_M_believe_45 : decode b_M_believe 45 = .ok (.istore_n 2, 1) := by decide +kernel
theorem d_M_believe_46 : decode b_M_believe 46 = .ok (.iload_n 2, 1) := by decide +kernel
theorem d_M_believe_47 : decode b_M_believe 47 = .ok (.iload_n 1, 1) := by decide +kernel
theorem d_M_believe_48 : decode b_M_believe 48 = .ok (.if_icmp .gt 34, 3) := by decide +kernel
theorem d_M_believe_51 : decode b_M_believe 51 = .ok (.aload_n 0, 1) := by decide +kernel
theorem d_M_believe_52 : decode b_M_believe 52 = .ok (.invokevirtual 129, 3) := by decide +kernel
theorem d_M_believe_55 : decode b_M_believe 55 = .ok (.aload_n 0, 1) := by decide +kernel
theorem d_M_believe_56 : decode b_M_believe 56 = .ok (.invokevirtual 132, 3) := by decide +kernel
theorem d_M_believe_59 : decode b_M_believe 59 = .ok (.aload_n 0, 1) := by decide +kernel
theorem d_M_believe_60 : decode b_M_believe 60 = .ok (.aload_n 0, 1) := by decide +kernel
theorem d_M_believe_61 : decode b_M_believe 61 = .ok (.invokevirtual 135, 3) := by decide +kernel
theorem d_M_believe_64 : decode b_M_believe 64 = .ok (.invokevirtual 139, 3) := by decide +kernel
theorem d_M_believe_67 : decode b_M_believe 67 = .ok (.aload_n 0, 1) := by decide +kernel
theorem d_M_believe_68 : decode b_M_believe 68 = .ok (.getfield 69, 3) := by decide +kernel
theorem d_M_believe_71 : decode b_M_believe 71 = .ok (.if_icmp .ne 5, 3) := by decide +kernel
theorem d_M_believe_74 : decode b_M_believe 74 = .ok (.iload_n 2, 1) := by decide +kernel
theorem d_M_believe_75 : decode b_M_believe 75 = .ok (.ireturn, 1) := by decide +kernel
theorem d_M_believe_76 : decode b_M_believe 76 = .ok (.iinc 2 1, 3) := by decide +kernel
theorem d_M_believe_79 : decode b_M_believe 79 = .ok (.goto (-33), 3) := by decide +kernel
theorem d_M_believe_82 : decode b_M_believe 82 = .ok (.iconst 0, 1) := by decide +kernel
theorem d_M_believe_83 : decode b_M_believe 83 = .ok (.ireturn, 1) := by decide +kernel
theorem d_M_sent_0 : decode b_M_sent 0 = .ok (.aload_n 0, 1) := by decide +kernel
theorem d_M_sent_1 : decode b_M_sent 1 = .ok (.getfield 61, 3) := by decide +kernel
theorem d_M_sent_4 : decode b_M_sent 4 = .ok (.ifCond .ne 9, 3) := by decide +kernel
theorem d_M_sent_7 : decode b_M_sent 7 = .ok (.aload_n 0, 1) := by decide +kernel
theorem d_M_sent_8 : decode b_M_sent 8 = .ok (.iconst 1, 1) := by decide +kernel
theorem d_M_sent_9 : decode b_M_sent 9 = .ok (.invokevirtual 109, 3) := by decide +kernel
theorem d_M_sent_12 : decode b_M_sent 12 = .ok (.ireturn, 1) := by decide +kernel
theorem d_M_sent_13 : decode b_M_sent 13 = .ok (.aload_n 0, 1) := by decide +kernel
theorem d_M_sent_14 : decode b_M_sent 14 = .ok (.iload_n 1, 1) := by decide +kernel
theorem d_M_sent_15 : decode b_M_sent 15 = .ok (.invokevirtual 143, 3) := by decide +kernel
theorem d_M_sent_18 : decode b_M_sent 18 = .ok (.ifCond .eq 12, 3) := by decide +kernel
theorem d_M_sent_21 : decode b_M_sent 21 = .ok (.iload_n 2, 1) := by decide +kernel
theorem d_M_sent_22 : decode b_M_sent 22 = .ok (.ifCond .lt 8, 3) := by decide +kernel
theorem d_M_sent_25 : decode b_M_sent 25 = .ok (.iload_n 2, 1) := by decide +kernel
theorem d_M_sent_26 : decode b_M_sent 26 = .ok (.iconst 2, 1) := by decide +kernel
theorem d_M_sent_27 : decode b_M_sent 27 = .ok (.if_icmp .le 9, 3) := by decide +kernel
theorem d_M_sent_30 : decode b_M_sent 30 = .ok (.aload_n 0, 1) := by decide +kernel
theorem d_M_sent_31 : decode b_M_sent 31 = .ok (.iconst 2, 1) := by decide +kernel
theorem d_M_sent_32 : decode b_M_sent 32 = .ok (.invokevirtual 109, 3) := by decide +kernel
theorem d_M_sent_35 : decode b_M_sent 35 = .ok (.ireturn, 1) := by decide +kernel
theorem d_M_sent_36 : decode b_M_sent 36 = .ok (.aload_n 0, 1) := by decide +kernel
theorem d_M_sent_37 : decode b_M_sent 37 = .ok (.iconst 0, 1) := by decide +kernel
theorem d_M_sent_38 : decode b_M_sent 38 = .ok (.putfield 51, 3) := by decide +kernel
theorem d_M_sent_41 : decode b_M_sent 41 = .ok (.iload_n 2, 1) := by decide +kernel
theorem d_M_sent_42 : decode b_M_sent 42 = .ok (.iconst 2, 1) := by decide +kernel
theorem d_M_sent_43 : decode b_M_sent 43 = .ok (.if_icmp .ne 11, 3) := by decide +kernel
theorem d_M_sent_46 : decode b_M_sent 46 = .ok (.aload_n 0, 1) := by decide +kernel
theorem d_M_sent_47 : decode b_M_sent 47 = .ok (.iload_n 1, 1) := by decide +kernel
theorem d_M_sent_48 : decode b_M_sent 48 = .ok (.invokevirtual 126, 3) := by decide +kernel
theorem d_M_sent_51 : decode b_M_sent 51 = .ok (.goto 13, 3) := by decide +kernel
theorem d_M_sent_54 : decode b_M_sent 54 = .ok (.aload_n 0, 1) := by decide +kernel
theorem d_M_sent_55 : decode b_M_sent 55 = .ok (.getfield 35, 3) := by decide +kernel
theorem d_M_sent_58 : decode b_M_sent 58 = .ok (.iconst 2, 1) := by decide +kernel
theorem d_M_sent_59 : decode b_M_sent 59 = .ok (.iload_n 1, 1) := by decide +kernel
theorem d_M_sent_60 : decode b_M_sent 60 = .ok (.imul, 1) := by decide +kernel
theorem d_M_sent_61 : decode b_M_sent 61 = .ok (.iload_n 2, 1) := by decide +kernel
theorem d_M_sent_62 : decode b_M_sent 62 = .ok (.iadd, 1) := by decide +kernel
theorem d_M_sent_63 : decode b_M_sent 63 = .ok (.iaload, 1) := by decide +kernel
theorem d_M_sent_64 : decode b_M_sent 64 = .ok (.ireturn, 1) := by decide +kernel
theorem d_M_guess_0 : decode b_M_guess 0 = .ok (.aload_n 0, 1) := by decide +kernel
theorem d_M_guess_1 : decode b_M_guess 1 = .ok (.iconst 0, 1) := by decide +kernel
theorem d_M_guess_2 : decode b_M_guess 2 = .ok (.putfield 51, 3) := by decide +kernel
theorem d_M_guess_5 : decode b_M_guess 5 = .ok (.aload_n 0, 1) := by decide +kernel
theorem d_M_guess_6 : decode b_M_guess 6 = .ok (.getfield 61, 3) := by decide +kernel
theorem d_M_guess_9 : decode b_M_guess 9 = .ok (.ifCond .eq 10, 3) := by decide +kernel
theorem d_M_guess_12 : decode b_M_guess 12 = .ok (.aload_n 0, 1) := by decide +kernel
theorem d_M_guess_13 : decode b_M_guess 13 = .ok (.invokevirtual 135, 3) := by decide +kernel
theorem d_M_guess_16 : decode b_M_guess 16 = .ok (.goto 4, 3) := by decide +kernel
theorem d_M_guess_19 : decode b_M_guess 19 = .ok (.lconst 0, 1) := by decide +kernel
theorem d_M_guess_20 : decode b_M_guess 20 = .ok (.lreturn, 1) := by decide +kernel
theorem d_M_highest_0 : decode b_M_highest 0 = .ok (.bipush 29, 2) := by decide +kernel
theorem d_M_highest_2 : decode b_M_highest 2 = .ok (.istore_n 1, 1) := by decide +kernel
theorem d_M_highest_3 : decode b_M_highest 3 = .ok (.iload_n 1, 1) := by decide +kernel
theorem d_M_highest_4 : decode b_M_highest 4 = .ok (.ifCond .lt 17, 3) := by decide +kernel
theorem d_M_highest_7 : decode b_M_highest 7 = .ok (.iload_n 0, 1) := by decide +kernel
theorem d_M_highest_8 : decode b_M_highest 8 = .ok (.iload_n 1, 1) := by decide +kernel
theorem d_M_highest_9 : decode b_M_highest 9 = .ok (.ishr, 1) := by decide +kernel
theorem d_M_highest_10 : decode b_M_highest 10 = .ok (.iconst 1, 1) := by decide +kernel
theorem d_M_highest_11 : decode b_M_highest 11 = .ok (.iand, 1) := by decide +kernel
theorem d_M_highest_12 : decode b_M_highest 12 = .ok (.ifCond .ne 9, 3) := by decide +kernel
theorem d_M_highest_15 : decode b_M_highest 15 = .ok (.iinc 1 (-1), 3) := by decide +kernel
theorem d_M_highest_18 : decode b_M_highest 18 = .ok (.goto (-15), 3) := by decide +kernel
theorem d_M_highest_21 : decode b_M_highest 21 = .ok (.iload_n 1, 1) := by decide +kernel
theorem d_M_highest_22 : decode b_M_highest 22 = .ok (.ireturn, 1) := by decide +kernel
theorem d_M_left_0 : decode b_M_left 0 = .ok (.iload_n 1, 1) := by decide +kernel
theorem d_M_left_1 : decode b_M_left 1 = .ok (.istore_n 2, 1) := by decide +kernel
theorem d_M_left_2 : decode b_M_left 2 = .ok (.aload_n 0, 1) := by decide +kernel
theorem d_M_left_3 : decode b_M_left 3 = .ok (.lconst 0, 1) := by decide +kernel
theorem d_M_left_4 : decode b_M_left 4 = .ok (.putfield 146, 3) := by decide +kernel
theorem d_M_left_7 : decode b_M_left 7 = .ok (.bipush 29, 2) := by decide +kernel
theorem d_M_left_9 : decode b_M_left 9 = .ok (.istore_n 3, 1) := by decide +kernel
theorem d_M_left_10 : decode b_M_left 10 = .ok (.iload_n 3, 1) := by decide +kernel
theorem d_M_left_11 : decode b_M_left 11 = .ok (.ifCond .lt 53, 3) := by decide +kernel
theorem d_M_left_14 : decode b_M_left 14 = .ok (.iload_n 2, 1) := by decide +kernel
theorem d_M_left_15 : decode b_M_left 15 = .ok (.iload_n 3, 1) := by decide +kernel
theorem d_M_left_16 : decode b_M_left 16 = .ok (.ishr, 1) := by decide +kernel
theorem d_M_left_17 : decode b_M_left 17 = .ok (.iconst 1, 1) := by decide +kernel
theorem d_M_left_18 : decode b_M_left 18 = .ok (.iand, 1) := by decide +kernel
theorem d_M_left_19 : decode b_M_left 19 = .ok (.ifCond .eq 39, 3) := by decide +kernel
theorem d_M_left_22 : decode b_M_left 22 = .ok (.aload_n 0, 1) := by decide +kernel
theorem d_M_left_23 : decode b_M_left 23 = .ok (.getfield 41, 3) := by decide +kernel
theorem d_M_left_26 : decode b_M_left 26 = .ok (.iload_n 3, 1) := by decide +kernel
theorem d_M_left_27 : decode b_M_left 27 = .ok (.iaload, 1) := by decide +kernel
theorem d_M_left_28 : decode b_M_left 28 = .ok (.ifCond .ne 6, 3) := by decide +kernel
theorem d_M_left_31 : decode b_M_left 31 = .ok (.goto 27, 3) := by decide +kernel
theorem d_M_left_34 : decode b_M_left 34 = .ok (.iload_n 2, 1) := by decide +kernel
theorem d_M_left_35 : decode b_M_left 35 = .ok (.aload_n 0, 1) := by decide +kernel
theorem d_M_left_36 : decode b_M_left 36 = .ok (.getfield 41, 3) := by decide +kernel
theorem d_M_left_39 : decode b_M_left 39 = .ok (.iload_n 3, 1) := by decide +kernel
theorem d_M_left_40 : decode b_M_left 40 = .ok (.iaload, 1) := by decide +kernel
theorem d_M_left_41 : decode b_M_left 41 = .ok (.ixor, 1) := by decide +kernel
theorem d_M_left_42 : decode b_M_left 42 = .ok (.istore_n 2, 1) := by decide +kernel
theorem d_M_left_43 : decode b_M_left 43 = .ok (.aload_n 0, 1) := by decide +kernel
theorem d_M_left_44 : decode b_M_left 44 = .ok (.dup, 1) := by decide +kernel
theorem d_M_left_45 : decode b_M_left 45 = .ok (.getfield 146, 3) := by decide +kernel
theorem d_M_left_48 : decode b_M_left 48 = .ok (.aload_n 0, 1) := by decide +kernel
theorem d_M_left_49 : decode b_M_left 49 = .ok (.getfield 44, 3) := by decide +kernel
theorem d_M_left_52 : decode b_M_left 52 = .ok (.iload_n 3, 1) := by decide +kernel
theorem d_M_left_53 : decode b_M_left 53 = .ok (.laload, 1) := by decide +kernel
theorem d_M_left_54 : decode b_M_left 54 = .ok (.lxor, 1) := by decide +kernel
theorem d_M_left_55 : decode b_M_left 55 = .ok (.putfield 146, 3) := by decide +kernel
theorem d_M_left_58 : decode b_M_left 58 = .ok (.iinc 3 (-1), 3) := by decide +kernel
theorem d_M_left_61 : decode b_M_left 61 = .ok (.goto (-51), 3) := by decide +kernel
theorem d_M_left_64 : decode b_M_left 64 = .ok (.iload_n 2, 1) := by decide +kernel
theorem d_M_left_65 : decode b_M_left 65 = .ok (.ireturn, 1) := by decide +kernel
theorem d_M_orderOf_0 : decode b_M_orderOf 0 = .ok (.aload_n 0, 1) := by decide +kernel
theorem d_M_orderOf_1 : decode b_M_orderOf 1 = .ok (.getfield 61, 3) := by decide +kernel
theorem d_M_orderOf_4 : decode b_M_orderOf 4 = .ok (.ifCond .eq 11, 3) := by decide +kernel
theorem d_M_orderOf_7 : decode b_M_orderOf 7 = .ok (.aload_n 0, 1) := by decide +kernel
theorem d_M_orderOf_8 : decode b_M_orderOf 8 = .ok (.iload_n 1, 1) := by decide +kernel
theorem d_M_orderOf_9 : decode b_M_orderOf 9 = .ok (.invokevirtual 126, 3) := by decide +kernel
theorem d_M_orderOf_12 : decode b_M_orderOf 12 = .ok (.goto 9, 3) := by decide +kernel
theorem d_M_orderOf_15 : decode b_M_orderOf 15 = .ok (.aload_n 0, 1) := by decide +kernel
theorem d_M_orderOf_16 : decode b_M_orderOf 16 = .ok (.getfield 17, 3) := by decide +kernel
theorem d_M_orderOf_19 : decode b_M_orderOf 19 = .ok (.iload_n 1, 1) := by decide +kernel
theorem d_M_orderOf_20 : decode b_M_orderOf 20 = .ok (.iaload, 1) := by decide +kernel
theorem d_M_orderOf_21 : decode b_M_orderOf 21 = .ok (.ireturn, 1) := by decide +kernel
theorem d_M_nextEdge_0 : decode b_M_nextEdge 0 = .ok (.iconst (-1), 1) := by decide +kernel
theorem d_M_nextEdge_1 : decode b_M_nextEdge 1 = .ok (.istore_n 1, 1) := by decide +kernel
theorem d_M_nextEdge_2 : decode b_M_nextEdge 2 = .ok (.iconst 0, 1) := by decide +kernel
theorem d_M_nextEdge_3 : decode b_M_nextEdge 3 = .ok (.istore_n 2, 1) := by decide +kernel
theorem d_M_nextEdge_4 : decode b_M_nextEdge 4 = .ok (.iload_n 2, 1) := by decide +kernel
theorem d_M_nextEdge_5 : decode b_M_nextEdge 5 = .ok (.aload_n 0, 1) := by decide +kernel
theorem d_M_nextEdge_6 : decode b_M_nextEdge 6 = .ok (.getfield 58, 3) := by decide +kernel
theorem d_M_nextEdge_9 : decode b_M_nextEdge 9 = .ok (.if_icmp .ge 38, 3) := by decide +kernel
theorem d_M_nextEdge_12 : decode b_M_nextEdge 12 = .ok (.aload_n 0, 1) := by decide +kernel
theorem d_M_nextEdge_13 : decode b_M_nextEdge 13 = .ok (.getfield 48, 3) := by decide +kernel
theorem d_M_nextEdge_16 : decode b_M_nextEdge 16 = .ok (.iload_n 2, 1) := by decide +kernel
theorem d_M_nextEdge_17 : decode b_M_nextEdge 17 = .ok (.baload, 1) := by decide +kernel
theorem d_M_nextEdge_18 : decode b_M_nextEdge 18 = .ok (.ifCond .ne 23, 3) := by decide +kernel
theorem d_M_nextEdge_21 : decode b_M_nextEdge 21 = .ok (.iload_n 1, 1) := by decide +kernel
theorem d_M_nextEdge_22 : decode b_M_nextEdge 22 = .ok (.iconst (-1), 1) := by decide +kernel
theorem d_M_nextEdge_23 : decode b_M_nextEdge 23 = .ok (.if_icmp .eq 16, 3) := by decide +kernel
theorem d_M_nextEdge_26 : decode b_M_nextEdge 26 = .ok (.aload_n 0, 1) := by decide +kernel
theorem d_M_nextEdge_27 : decode b_M_nextEdge 27 = .ok (.iload_n 2, 1) := by decide +kernel
theorem d_M_nextEdge_28 : decode b_M_nextEdge 28 = .ok (.invokevirtual 149, 3) := by decide +kernel
theorem d_M_nextEdge_31 : decode b_M_nextEdge 31 = .ok (.aload_n 0, 1) := by decide +kernel
theorem d_M_nextEdge_32 : decode b_M_nextEdge 32 = .ok (.iload_n 1, 1) := by decide +kernel
theorem d_M_nextEdge_33 : decode b_M_nextEdge 33 = .ok (.invokevirtual 149, 3) := by decide +kernel
theorem d_M_nextEdge_36 : decode b_M_nextEdge 36 = .ok (.if_icmp .ge 5, 3) := by decide +kernel
theorem d_M_nextEdge_39 : decode b_M_nextEdge 39 = .ok (.iload_n 2, 1) := by decide +kernel
theorem d_M_nextEdge_40 : decode b_M_nextEdge 40 = .ok (.istore_n 1, 1) := by decide +kernel
theorem d_M_nextEdge_41 : decode b_M_nextEdge 41 = .ok (.iinc 2 1, 3) := by decide +kernel
theorem d_M_nextEdge_44 : decode b_M_nextEdge 44 = .ok (.goto (-40), 3) := by decide +kernel
theorem d_M_nextEdge_47 : decode b_M_nextEdge 47 = .ok (.iload_n 1, 1) := by decide +kernel
theorem d_M_nextEdge_48 : decode b_M_nextEdge 48 = .ok (.ireturn, 1) := by decide +kernel
theorem d_M_choose_0 : decode b_M_choose 0 = .ok (.iconst 0, 1) := by decide +kernel
theorem d_M_choose_1 : decode b_M_choose 1 = .ok (.istore_n 1, 1) := by decide +kernel
theorem d_M_choose_2 : decode b_M_choose 2 = .ok (.iload_n 1, 1) := by decide +kernel
theorem d_M_choose_3 : decode b_M_choose 3 = .ok (.bipush 30, 2) := by decide +kernel
theorem d_M_choose_5 : decode b_M_choose 5 = .ok (.if_icmp .ge 23, 3) := by decide +kernel
theorem d_M_choose_8 : decode b_M_choose 8 = .ok (.aload_n 0, 1) := by decide +kernel
theorem d_M_choose_9 : decode b_M_choose 9 = .ok (.getfield 41, 3) := by decide +kernel
theorem d_M_choose_12 : decode b_M_choose 12 = .ok (.iload_n 1, 1) := by decide +kernel
theorem d_M_choose_13 : decode b_M_choose 13 = .ok (.iconst 0, 1) := by decide +kernel
theorem d_M_choose_14 : decode b_M_choose 14 = .ok (.iastore, 1) := by decide +kernel
theorem d_M_choose_15 : decode b_M_choose 15 = .ok (.aload_n 0, 1) := by decide +kernel
theorem d_M_choose_16 : decode b_M_choose 16 = .ok (.getfield 44, 3) := by decide +kernel
theorem d_M_choose_19 : decode b_M_choose 19 = .ok (.iload_n 1, 1) := by decide +kernel
theorem d_M_choose_20 : decode b_M_choose 20 = .ok (.lconst 0, 1) := by decide +kernel
theorem d_M_choose_21 : decode b_M_choose 21 = .ok (.lastore, 1) := by decide +kernel
theorem d_M_choose_22 : decode b_M_choose 22 = .ok (.iinc 1 1, 3) := by decide +kernel
theorem d_M_choose_25 : decode b_M_choose 25 = .ok (.goto (-23), 3) := by decide +kernel
theorem d_M_choose_28 : decode b_M_choose 28 = .ok (.iconst 0, 1) := by decide +kernel
theorem d_M_choose_29 : decode b_M_choose 29 = .ok (.istore_n 1, 1) := by decide +kernel
theorem d_M_choose_30 : decode b_M_choose 30 = .ok (.iload_n 1, 1) := by decide +kernel
theorem d_M_choose_31 : decode b_M_choose 31 = .ok (.bipush 60, 2) := by decide +kernel
theorem d_M_choose_33 : decode b_M_choose 33 = .ok (.if_icmp .ge 16, 3) := by decide +kernel
theorem d_M_choose_36 : decode b_M_choose 36 = .ok (.aload_n 0, 1) := by decide +kernel
theorem d_M_choose_37 : decode b_M_choose 37 = .ok (.getfield 48, 3) := by decide +kernel
theorem d_M_choose_40 : decode b_M_choose 40 = .ok (.iload_n 1, 1) := by decide +kernel
theorem d_M_choose_41 : decode b_M_choose 41 = .ok (.iconst 0, 1) := by decide +kernel
theorem d_M_choose_42 : decode b_M_choose 42 = .ok (.bastore, 1) := by decide +kernel
theorem d_M_choose_43 : decode b_M_choose 43 = .ok (.iinc 1 1, 3) := by decide +kernel
theorem d_M_choose_46 : decode b_M_choose 46 = .ok (.goto (-16), 3) := by decide +kernel
theorem d_M_choose_49 : decode b_M_choose 49 = .ok (.aload_n 0, 1) := by decide +kernel
theorem d_M_choose_50 : decode b_M_choose 50 = .ok (.iconst 0, 1) := by decide +kernel
theorem d_M_choose_51 : decode b_M_choose 51 = .ok (.putfield 152, 3) := by decide +kernel
theorem d_M_choose_54 : decode b_M_choose 54 = .ok (.iconst 0, 1) := by decide +kernel
theorem d_M_choose_55 : decode b_M_choose 55 = .ok (.istore_n 1, 1) := by decide +kernel
theorem d_M_choose_56 : decode b_M_choose 56 = .ok (.iload_n 1, 1) := by decide +kernel
theorem d_M_choose_57 : decode b_M_choose 57 = .ok (.aload_n 0, 1) := by decide +kernel
theorem d_M_choose_58 : decode b_M_choose 58 = .ok (.getfield 58, 3) := by decide +kernel
theorem d_M_choose_61 : decode b_M_choose 61 = .ok (.if_icmp .ge 77, 3) := by decide +kernel
theorem d_M_choose_64 : decode b_M_choose 64 = .ok (.aload_n 0, 1) := by decide +kernel
theorem d_M_choose_65 : decode b_M_choose 65 = .ok (.invokevirtual 155, 3) := by decide +kernel
theorem d_M_choose_68 : decode b_M_choose 68 = .ok (.istore_n 2, 1) := by decide +kernel
theorem d_M_choose_69 : decode b_M_choose 69 = .ok (.aload_n 0, 1) := by decide +kernel
theorem d_M_choose_70 : decode b_M_choose 70 = .ok (.getfield 48, 3) := by decide +kernel
theorem d_M_choose_73 : decode b_M_choose 73 = .ok (.iload_n 2, 1) := by decide +kernel
theorem d_M_choose_74 : decode b_M_choose 74 = .ok (.iconst 1, 1) := by decide +kernel
theorem d_M_choose_75 : decode b_M_choose 75 = .ok (.bastore, 1) := by decide +kernel
theorem d_M_choose_76 : decode b_M_choose 76 = .ok (.aload_n 0, 1) := by decide +kernel
theorem d_M_choose_77 : decode b_M_choose 77 = .ok (.aload_n 0, 1) := by decide +kernel
theorem d_M_choose_78 : decode b_M_choose 78 = .ok (.lconst 1, 1) := by decide +kernel
theorem d_M_choose_79 : decode b_M_choose 79 = .ok (.iload_n 2, 1) := by decide +kernel
theorem d_M_choose_80 : decode b_M_choose 80 = .ok (.lshl, 1) := by decide +kernel
theorem d_M_choose_81 : decode b_M_choose 81 = .ok (.invokevirtual 139, 3) := by decide +kernel
theorem d_M_choose_84 : decode b_M_choose 84 = .ok (.invokevirtual 159, 3) := by decide +kernel
theorem d_M_choose_87 : decode b_M_choose 87 = .ok (.istore_n 3, 1) := by decide +kernel
theorem d_M_choose_88 : decode b_M_choose 88 = .ok (.iload_n 3, 1) := by decide +kernel
theorem d_M_choose_89 : decode b_M_choose 89 = .ok (.ifCond .ne 6, 3) := by decide +kernel
theorem d_M_choose_92 : decode b_M_choose 92 = .ok (.goto 40, 3) := by decide +kernel
theorem d_M_choose_95 : decode b_M_choose 95 = .ok (.aload_n 0, 1) := by decide +kernel
theorem d_M_choose_96 : decode b_M_choose 96 = .ok (.getfield 41, 3) := by decide +kernel
theorem d_M_choose_99 : decode b_M_choose 99 = .ok (.iload_n 3, 1) := by decide +kernel
theorem d_M_choose_100 : decode b_M_choose 100 = .ok (.invokestatic 162, 3) := by decide +kernel
theorem d_M_choose_103 : decode b_M_choose 103 = .ok (.iload_n 3, 1) := by decide +kernel
theorem d_M_choose_104 : decode b_M_choose 104 = .ok (.iastore, 1) := by decide +kernel
theorem d_M_choose_105 : decode b_M_choose 105 = .ok (.aload_n 0, 1) := by decide +kernel
theorem d_M_choose_106 : decode b_M_choose 106 = .ok (.getfield 44, 3) := by decide +kernel
theorem d_M_choose_109 : decode b_M_choose 109 = .ok (.iload_n 3, 1) := by decide +kernel
theorem d_M_choose_110 : decode b_M_choose 110 = .ok (.invokestatic 162, 3) := by decide +kernel
theorem d_M_choose_113 : decode b_M_choose 113 = .ok (.aload_n 0, 1) := by decide +kernel
theorem d_M_choose_114 : decode b_M_choose 114 = .ok (.getfield 146, 3) := by decide +kernel
theorem d_M_choose_117 : decode b_M_choose 117 = .ok (.lconst 1, 1) := by decide +kernel
theorem d_M_choose_118 : decode b_M_choose 118 = .ok (.iload_n 2, 1) := by decide +kernel
theorem d_M_choose_119 : decode b_M_choose 119 = .ok (.lshl, 1) := by decide +kernel
theorem d_M_choose_120 : decode b_M_choose 120 = .ok (.lxor, 1) := by decide +kernel
theorem d_M_choose_121 : decode b_M_choose 121 = .ok (.lastore, 1) := by decide +kernel
theorem d_M_choose_122 : decode b_M_choose 122 = .ok (.aload_n 0, 1) := by decide +kernel
theorem d_M_choose_123 : decode b_M_choose 123 = .ok (.dup, 1) := by decide +kernel
theorem d_M_choose_124 : decode b_M_choose 124 = .ok (.getfield 152, 3) := by decide +kernel
theorem d_M_choose_127 : decode b_M_choose 127 = .ok (.iconst 1, 1) := by decide +kernel
theorem d_M_choose_128 : decode b_M_choose 128 = .ok (.iadd, 1) := by decide +kernel
theorem d_M_choose_129 : decode b_M_choose 129 = .ok (.putfield 152, 3) := by decide +kernel
theorem d_M_choose_132 : decode b_M_choose 132 = .ok (.iinc 1 1, 3) := by decide +kernel
theorem d_M_choose_135 : decode b_M_choose 135 = .ok (.goto (-79), 3) := by decide +kernel
theorem d_M_choose_138 : decode b_M_choose 138 = .ok (.return_, 1) := by decide +kernel
theorem d_M_answer_0 : decode b_M_answer 0 = .ok (.aload_n 0, 1) := by decide +kernel
theorem d_M_answer_1 : decode b_M_answer 1 = .ok (.iconst 0, 1) := by decide +kernel
theorem d_M_answer_2 : decode b_M_answer 2 = .ok (.putfield 51, 3) := by decide +kernel
theorem d_M_answer_5 : decode b_M_answer 5 = .ok (.aload_n 0, 1) := by decide +kernel
theorem d_M_answer_6 : decode b_M_answer 6 = .ok (.invokevirtual 165, 3) := by decide +kernel
theorem d_M_answer_9 : decode b_M_answer 9 = .ok (.aload_n 0, 1) := by decide +kernel
theorem d_M_answer_10 : decode b_M_answer 10 = .ok (.aload_n 0, 1) := by decide +kernel
theorem d_M_answer_11 : decode b_M_answer 11 = .ok (.getfield 69, 3) := by decide +kernel
theorem d_M_answer_14 : decode b_M_answer 14 = .ok (.invokevirtual 159, 3) := by decide +kernel
theorem d_M_answer_17 : decode b_M_answer 17 = .ok (.ifCond .ne 10, 3) := by decide +kernel
theorem d_M_answer_20 : decode b_M_answer 20 = .ok (.aload_n 0, 1) := by decide +kernel
theorem d_M_answer_21 : decode b_M_answer 21 = .ok (.getfield 146, 3) := by decide +kernel
theorem d_M_answer_24 : decode b_M_answer 24 = .ok (.goto 6, 3) := by decide +kernel
theorem d_M_answer_27 : decode b_M_answer 27 = .ok (.ldc2_w 115, 3) := by decide +kernel
theorem d_M_answer_30 : decode b_M_answer 30 = .ok (.lreturn, 1) := by decide +kernel
theorem d_M_chosen_0 : decode b_M_chosen 0 = .ok (.aload_n 0, 1) := by decide +kernel
theorem d_M_chosen_1 : decode b_M_chosen 1 = .ok (.iconst 0, 1) := by decide +kernel
theorem d_M_chosen_2 : decode b_M_chosen 2 = .ok (.putfield 51, 3) := by decide +kernel
theorem d_M_chosen_5 : decode b_M_chosen 5 = .ok (.aload_n 0, 1) := by decide +kernel
theorem d_M_chosen_6 : decode b_M_chosen 6 = .ok (.invokevirtual 165, 3) := by decide +kernel
theorem d_M_chosen_9 : decode b_M_chosen 9 = .ok (.aload_n 0, 1) := by decide +kernel
theorem d_M_chosen_10 : decode b_M_chosen 10 = .ok (.getfield 152, 3) := by decide +kernel
theorem d_M_chosen_13 : decode b_M_chosen 13 = .ok (.ireturn, 1) := by decide +kernel
theorem d_M_syndromeOf_0 : decode b_M_syndromeOf 0 = .ok (.iconst 0, 1) := by decide +kernel
theorem d_M_syndromeOf_1 : decode b_M_syndromeOf 1 = .ok (.istore_n 3, 1) := by decide +kernel
theorem d_M_syndromeOf_2 : decode b_M_syndromeOf 2 = .ok (.iconst 0, 1) := by decide +kernel
theorem d_M_syndromeOf_3 : decode b_M_syndromeOf 3 = .ok (.istore 4, 2) := by decide +kernel
theorem d_M_syndromeOf_5 : decode b_M_syndromeOf 5 = .ok (.iload 4, 2) := by decide +kernel
theorem d_M_syndromeOf_7 : decode b_M_syndromeOf 7 = .ok (.iconst 2, 1) := by decide +kernel
theorem d_M_syndromeOf_8 : decode b_M_syndromeOf 8 = .ok (.aload_n 0, 1) := by decide +kernel
theorem d_M_syndromeOf_9 : decode b_M_syndromeOf 9 = .ok (.getfield 58, 3) := by decide +kernel
theorem d_M_syndromeOf_12 : decode b_M_syndromeOf 12 = .ok (.imul, 1) := by decide +kernel
theorem d_M_syndromeOf_13 : decode b_M_syndromeOf 13 = .ok (.if_icmp .ge 43, 3) := by decide +kernel
theorem d_M_syndromeOf_16 : decode b_M_syndromeOf 16 = .ok (.lload_n 1, 1) := by decide +kernel
theorem d_M_syndromeOf_17 : decode b_M_syndromeOf 17 = .ok (.iload 4, 2) := by decide +kernel
theorem d_M_syndromeOf_19 : decode b_M_syndromeOf 19 = .ok (.iconst 2, 1) := by decide +kernel
theorem d_M_syndromeOf_20 : decode b_M_syndromeOf 20 = .ok (.idiv, 1) := by decide +kernel
theorem d_M_syndromeOf_21 : decode b_M_syndromeOf 21 = .ok (.lshr, 1) := by decide +kernel
theorem d_M_syndromeOf_22 : decode b_M_syndromeOf 22 = .ok (.lconst 1, 1) := by decide +kernel
theorem d_M_syndromeOf_23 : decode b_M_syndromeOf 23 = .ok (.land, 1) := by decide +kernel
theorem d_M_syndromeOf_24 : decode b_M_syndromeOf 24 = .ok (.lconst 1, 1) := by decide +kernel
theorem d_M_syndromeOf_25 : decode b_M_syndromeOf 25 = .ok (.lcmp, 1) := by decide +kernel
theorem d_M_syndromeOf_26 : decode b_M_syndromeOf 26 = .ok (.ifCond .ne 24, 3) := by decide +kernel
theorem d_M_syndromeOf_29 : decode b_M_syndromeOf 29 = .ok (.aload_n 0, 1) := by decide +kernel
theorem d_M_syndromeOf_30 : decode b_M_syndromeOf 30 = .ok (.iload 4, 2) := by decide +kernel
theorem d_M_syndromeOf_32 : decode b_M_syndromeOf 32 = .ok (.invokevirtual 117, 3) := by decide +kernel
theorem d_M_syndromeOf_35 : decode b_M_syndromeOf 35 = .ok (.ifCond .eq 15, 3) := by decide +kernel
theorem d_M_syndromeOf_38 : decode b_M_syndromeOf 38 = .ok (.iload_n 3, 1) := by decide +kernel
theorem d_M_syndromeOf_39 : decode b_M_syndromeOf 39 = .ok (.iconst 1, 1) := by decide +kernel
theorem d_M_syndromeOf_40 : decode b_M_syndromeOf 40 = .ok (.aload_n 0, 1) := by decide +kernel
theorem d_M_syndromeOf_41 : decode b_M_syndromeOf 41 = .ok (.getfield 13, 3) := by decide +kernel
theorem d_M_syndromeOf_44 : decode b_M_syndromeOf 44 = .ok (.iload 4, 2) := by decide +kernel
theorem d_M_syndromeOf_46 : decode b_M_syndromeOf 46 = .ok (.iaload, 1) := by decide +kernel
theorem d_M_syndromeOf_47 : decode b_M_syndromeOf 47 = .ok (.ishl, 1) := by decide +kernel
theorem d_M_syndromeOf_48 : decode b_M_syndromeOf 48 = .ok (.ixor, 1) := by decide +kernel
theorem d_M_syndromeOf_49 : decode b_M_syndromeOf 49 = .ok (.istore_n 3, 1) := by decide +kernel
theorem d_M_syndromeOf_50 : decode b_M_syndromeOf 50 = .ok (.iinc 4 1, 3) := by decide +kernel
theorem d_M_syndromeOf_53 : decode b_M_syndromeOf 53 = .ok (.goto (-48), 3) := by decide +kernel
theorem d_M_syndromeOf_56 : decode b_M_syndromeOf 56 = .ok (.iload_n 3, 1) := by decide +kernel
theorem d_M_syndromeOf_57 : decode b_M_syndromeOf 57 = .ok (.ireturn, 1) := by decide +kernel
theorem d_M_syndrome_0 : decode b_M_syndrome 0 = .ok (.aload_n 0, 1) := by decide +kernel
theorem d_M_syndrome_1 : decode b_M_syndrome 1 = .ok (.iconst 0, 1) := by decide +kernel
theorem d_M_syndrome_2 : decode b_M_syndrome 2 = .ok (.putfield 51, 3) := by decide +kernel
theorem d_M_syndrome_5 : decode b_M_syndrome 5 = .ok (.lload_n 1, 1) := by decide +kernel
theorem d_M_syndrome_6 : decode b_M_syndrome 6 = .ok (.lconst 0, 1) := by decide +kernel
theorem d_M_syndrome_7 : decode b_M_syndrome 7 = .ok (.lcmp, 1) := by decide +kernel
theorem d_M_syndrome_8 : decode b_M_syndrome 8 = .ok (.ifCond .lt 14, 3) := by decide +kernel
theorem d_M_syndrome_11 : decode b_M_syndrome 11 = .ok (.lload_n 1, 1) := by decide +kernel
theorem d_M_syndrome_12 : decode b_M_syndrome 12 = .ok (.aload_n 0, 1) := by decide +kernel
theorem d_M_syndrome_13 : decode b_M_syndrome 13 = .ok (.getfield 58, 3) := by decide +kernel
theorem d_M_syndrome_16 : decode b_M_syndrome 16 = .ok (.lushr, 1) := by decide +kernel
theorem d_M_syndrome_17 : decode b_M_syndrome 17 = .ok (.lconst 0, 1) := by decide +kernel
theorem d_M_syndrome_18 : decode b_M_syndrome 18 = .ok (.lcmp, 1) := by decide +kernel
theorem d_M_syndrome_19 : decode b_M_syndrome 19 = .ok (.ifCond .eq 7, 3) := by decide +kernel
theorem d_M_syndrome_22 : decode b_M_syndrome 22 = .ok (.iconst (-1), 1) := by decide +kernel
theorem d_M_syndrome_23 : decode b_M_syndrome 23 = .ok (.goto 8, 3) := by decide +kernel
theorem d_M_syndrome_26 : decode b_M_syndrome 26 = .ok (.aload_n 0, 1) := by decide +kernel
theorem d_M_syndrome_27 : decode b_M_syndrome 27 = .ok (.lload_n 1, 1) := by decide +kernel
theorem d_M_syndrome_28 : decode b_M_syndrome 28 = .ok (.invokevirtual 139, 3) := by decide +kernel
theorem d_M_syndrome_31 : decode b_M_syndrome 31 = .ok (.ireturn, 1) := by decide +kernel
theorem d_M_total_0 : decode b_M_total 0 = .ok (.aload_n 0, 1) := by decide +kernel
theorem d_M_total_1 : decode b_M_total 1 = .ok (.iconst 0, 1) := by decide +kernel
theorem d_M_total_2 : decode b_M_total 2 = .ok (.putfield 51, 3) := by decide +kernel
theorem d_M_total_5 : decode b_M_total 5 = .ok (.iconst 0, 1) := by decide +kernel
theorem d_M_total_6 : decode b_M_total 6 = .ok (.istore_n 2, 1) := by decide +kernel
theorem d_M_total_7 : decode b_M_total 7 = .ok (.iload_n 1, 1) := by decide +kernel
theorem d_M_total_8 : decode b_M_total 8 = .ok (.tableswitch 92 0 4 #[36, 41, 46, 51, 87], 36) := by decide +kernel
theorem d_M_total_44 : decode b_M_total 44 = .ok (.aload_n 0, 1) := by decide +kernel
theorem d_M_total_45 : decode b_M_total 45 = .ok (.getfield 55, 3) := by decide +kernel
theorem d_M_total_48 : decode b_M_total 48 = .ok (.ireturn, 1) := by decide +kernel
theorem d_M_total_49 : decode b_M_total 49 = .ok (.aload_n 0, 1) := by decide +kernel
theorem d_M_total_50 : decode b_M_total 50 = .ok (.getfield 58, 3) := by decide +kernel
theorem d_M_total_53 : decode b_M_total 53 = .ok (.ireturn, 1) := by decide +kernel
theorem d_M_total_54 : decode b_M_total 54 = .ok (.aload_n 0, 1) := by decide +kernel
theorem d_M_total_55 : decode b_M_total 55 = .ok (.getfield 69, 3) := by decide +kernel
theorem d_M_total_58 : decode b_M_total 58 = .ok (.ireturn, 1) := by decide +kernel
theorem d_M_total_59 : decode b_M_total 59 = .ok (.iconst 0, 1) := by decide +kernel
theorem d_M_total_60 : decode b_M_total 60 = .ok (.istore_n 3, 1) := by decide +kernel
theorem d_M_total_61 : decode b_M_total 61 = .ok (.iload_n 3, 1) := by decide +kernel
theorem d_M_total_62 : decode b_M_total 62 = .ok (.aload_n 0, 1) := by decide +kernel
theorem d_M_total_63 : decode b_M_total 63 = .ok (.getfield 103, 3) := by decide +kernel
theorem d_M_total_66 : decode b_M_total 66 = .ok (.if_icmp .ge 27, 3) := by decide +kernel
theorem d_M_total_69 : decode b_M_total 69 = .ok (.iload_n 2, 1) := by decide +kernel
theorem d_M_total_70 : decode b_M_total 70 = .ok (.aload_n 0, 1) := by decide +kernel
theorem d_M_total_71 : decode b_M_total 71 = .ok (.getfield 20, 3) := by decide +kernel
theorem d_M_total_74 : decode b_M_total 74 = .ok (.iload_n 3, 1) := by decide +kernel
theorem d_M_total_75 : decode b_M_total 75 = .ok (.iaload, 1) := by decide +kernel
theorem d_M_total_76 : decode b_M_total 76 = .ok (.iload_n 3, 1) := by decide +kernel
theorem d_M_total_77 : decode b_M_total 77 = .ok (.if_icmp .ne 7, 3) := by decide +kernel
theorem d_M_total_80 : decode b_M_total 80 = .ok (.iconst 1, 1) := by decide +kernel
theorem d_M_total_81 : decode b_M_total 81 = .ok (.goto 4, 3) := by decide +kernel
theorem d_M_total_84 : decode b_M_total 84 = .ok (.iconst 0, 1) := by decide +kernel
theorem d_M_total_85 : decode b_M_total 85 = .ok (.iadd, 1) := by decide +kernel
theorem d_M_total_86 : decode b_M_total 86 = .ok (.istore_n 2, 1) := by decide +kernel
theorem d_M_total_87 : decode b_M_total 87 = .ok (.iinc 3 1, 3) := by decide +kernel
theorem d_M_total_90 : decode b_M_total 90 = .ok (.goto (-29), 3) := by decide +kernel
theorem d_M_total_93 : decode b_M_total 93 = .ok (.iload_n 2, 1) := by decide +kernel
theorem d_M_total_94 : decode b_M_total 94 = .ok (.ireturn, 1) := by decide +kernel
theorem d_M_total_95 : decode b_M_total 95 = .ok (.aload_n 0, 1) := by decide +kernel
theorem d_M_total_96 : decode b_M_total 96 = .ok (.getfield 72, 3) := by decide +kernel
theorem d_M_total_99 : decode b_M_total 99 = .ok (.ireturn, 1) := by decide +kernel
theorem d_M_total_100 : decode b_M_total 100 = .ok (.iconst (-1), 1) := by decide +kernel
theorem d_M_total_101 : decode b_M_total 101 = .ok (.ireturn, 1) := by decide +kernel
