theorem dX12_order_90 : decode cX12_order 90 = .ok (.istore 8, 2) := by decide +kernel
theorem dX12_order_92 : decode cX12_order 92 = .ok (.iload 8, 2) := by decide +kernel
theorem dX12_order_94 : decode cX12_order 94 = .ok (.iload_n 1, 1) := by decide +kernel
theorem dX12_order_95 : decode cX12_order 95 = .ok (.if_icmp .ge 31, 3) := by decide +kernel
theorem dX12_order_98 : decode cX12_order 98 = .ok (.aload_n 0, 1) := by decide +kernel
theorem dX12_order_99 : decode cX12_order 99 = .ok (.getfield 49, 3) := by decide +kernel
theorem dX12_order_102 : decode cX12_order 102 = .ok (.iload 8, 2) := by decide +kernel
theorem dX12_order_104 : decode cX12_order 104 = .ok (.lload 5, 2) := by decide +kernel
theorem dX12_order_106 : decode cX12_order 106 = .ok (.ldc2_w 245, 3) := by decide +kernel
theorem dX12_order_109 : decode cX12_order 109 = .ok (.lrem, 1) := by decide +kernel
theorem dX12_order_110 : decode cX12_order 110 = .ok (.l2i, 1) := by decide +kernel
theorem dX12_order_111 : decode cX12_order 111 = .ok (.iastore, 1) := by decide +kernel
theorem dX12_order_112 : decode cX12_order 112 = .ok (.lload 5, 2) := by decide +kernel
theorem dX12_order_114 : decode cX12_order 114 = .ok (.ldc2_w 245, 3) := by decide +kernel
theorem dX12_order_117 : decode cX12_order 117 = .ok (.ldiv, 1) := by decide +kernel
theorem dX12_order_118 : decode cX12_order 118 = .ok (.lstore 5, 2) := by decide +kernel
theorem dX12_order_120 : decode cX12_order 120 = .ok (.iinc 8 1, 3) := by decide +kernel
theorem dX12_order_123 : decode cX12_order 123 = .ok (.goto (-31), 3) := by decide +kernel
theorem dX12_order_126 : decode cX12_order 126 = .ok (.aload_n 0, 1) := by decide +kernel
theorem dX12_order_127 : decode cX12_order 127 = .ok (.iload_n 1, 1) := by decide +kernel
theorem dX12_order_128 : decode cX12_order 128 = .ok (.putfield 169, 3) := by decide +kernel
theorem dX12_order_131 : decode cX12_order 131 = .ok (.iload 7, 2) := by decide +kernel
theorem dX12_order_133 : decode cX12_order 133 = .ok (.ireturn, 1) := by decide +kernel
theorem dX12_hasAll_0 : decode cX12_hasAll 0 = .ok (.iconst 0, 1) := by decide +kernel
theorem dX12_hasAll_1 : decode cX12_hasAll 1 = .ok (.istore_n 2, 1) := by decide +kernel
theorem dX12_hasAll_2 : decode cX12_hasAll 2 = .ok (.iload_n 2, 1) := by decide +kernel
theorem dX12_hasAll_3 : decode cX12_hasAll 3 = .ok (.aload_n 0, 1) := by decide +kernel
theorem dX12_hasAll_4 : decode cX12_hasAll 4 = .ok (.getfield 113, 3) := by decide +kernel
theorem dX12_hasAll_7 : decode cX12_hasAll 7 = .ok (.if_icmp .ge 45, 3) := by decide +kernel
theorem dX12_hasAll_10 : decode cX12_hasAll 10 = .ok (.aload_n 0, 1) := by decide +kernel
theorem dX12_hasAll_11 : decode cX12_hasAll 11 = .ok (.iload_n 2, 1) := by decide +kernel
theorem dX12_hasAll_12 : decode cX12_hasAll 12 = .ok (.invokevirtual 236, 3) := by decide +kernel
theorem dX12_hasAll_15 : decode cX12_hasAll 15 = .ok (.ifCond .eq 31, 3) := by decide +kernel
theorem dX12_hasAll_18 : decode cX12_hasAll 18 = .ok (.iload_n 1, 1) := by decide +kernel
theorem dX12_hasAll_19 : decode cX12_hasAll 19 = .ok (.ifCond .eq 21, 3) := by decide +kernel
theorem dX12_hasAll_22 : decode cX12_hasAll 22 = .ok (.aload_n 0, 1) := by decide +kernel
theorem dX12_hasAll_23 : decode cX12_hasAll 23 = .ok (.iload_n 2, 1) := by decide +kernel
theorem dX12_hasAll_24 : decode cX12_hasAll 24 = .ok (.aload_n 0, 1) := by decide +kernel
theorem dX12_hasAll_25 : decode cX12_hasAll 25 = .ok (.getfield 209, 3) := by decide +kernel
theorem dX12_hasAll_28 : decode cX12_hasAll 28 = .ok (.aload_n 0, 1) := by decide +kernel
theorem dX12_hasAll_29 : decode cX12_hasAll 29 = .ok (.getfield 83, 3) := by decide +kernel
theorem dX12_hasAll_32 : decode cX12_hasAll 32 = .ok (.iload_n 2, 1) := by decide +kernel
theorem dX12_hasAll_33 : decode cX12_hasAll 33 = .ok (.iaload, 1) := by decide +kernel
theorem dX12_hasAll_34 : decode cX12_hasAll 34 = .ok (.invokevirtual 222, 3) := by decide +kernel
theorem dX12_hasAll_37 : decode cX12_hasAll 37 = .ok (.ifCond .le 9, 3) := by decide +kernel
theorem dX12_hasAll_40 : decode cX12_hasAll 40 = .ok (.aload_n 0, 1) := by decide +kernel
theorem dX12_hasAll_41 : decode cX12_hasAll 41 = .ok (.iload_n 2, 1) := by decide +kernel
theorem dX12_hasAll_42 : decode cX12_hasAll 42 = .ok (.invokevirtual 239, 3) := by decide +kernel
theorem dX12_hasAll_45 : decode cX12_hasAll 45 = .ok (.pop, 1) := by decide +kernel
theorem dX12_hasAll_46 : decode cX12_hasAll 46 = .ok (.iinc 2 1, 3) := by decide +kernel
theorem dX12_hasAll_49 : decode cX12_hasAll 49 = .ok (.goto (-47), 3) := by decide +kernel
theorem dX12_hasAll_52 : decode cX12_hasAll 52 = .ok (.return_, 1) := by decide +kernel
theorem dX12_isWorthGoing_0 : decode cX12_isWorthGoing 0 = .ok (.aload_n 0, 1) := by decide +kernel
theorem dX12_isWorthGoing_1 : decode cX12_isWorthGoing 1 = .ok (.getfield 209, 3) := by decide +kernel
theorem dX12_isWorthGoing_4 : decode cX12_isWorthGoing 4 = .ok (.aload_n 0, 1) := by decide +kernel
theorem dX12_isWorthGoing_5 : decode cX12_isWorthGoing 5 = .ok (.aload_n 0, 1) := by decide +kernel
theorem dX12_isWorthGoing_6 : decode cX12_isWorthGoing 6 = .ok (.getfield 163, 3) := by decide +kernel
theorem dX12_isWorthGoing_9 : decode cX12_isWorthGoing 9 = .ok (.iload_n 1, 1) := by decide +kernel
theorem dX12_isWorthGoing_10 : decode cX12_isWorthGoing 10 = .ok (.invokevirtual 218, 3) := by decide +kernel
theorem dX12_isWorthGoing_13 : decode cX12_isWorthGoing 13 = .ok (.iadd, 1) := by decide +kernel
theorem dX12_isWorthGoing_14 : decode cX12_isWorthGoing 14 = .ok (.istore_n 2, 1) := by decide +kernel
theorem dX12_isWorthGoing_15 : decode cX12_isWorthGoing 15 = .ok (.iload_n 1, 1) := by decide +kernel
theorem dX12_isWorthGoing_16 : decode cX12_isWorthGoing 16 = .ok (.aload_n 0, 1) := by decide +kernel
theorem dX12_isWorthGoing_17 : decode cX12_isWorthGoing 17 = .ok (.getfield 163, 3) := by decide +kernel
theorem dX12_isWorthGoing_20 : decode cX12_isWorthGoing 20 = .ok (.if_icmp .eq 13, 3) := by decide +kernel
theorem dX12_isWorthGoing_23 : decode cX12_isWorthGoing 23 = .ok (.iload_n 2, 1) := by decide +kernel
theorem dX12_isWorthGoing_24 : decode cX12_isWorthGoing 24 = .ok (.aload_n 0, 1) := by decide +kernel
theorem dX12_isWorthGoing_25 : decode cX12_isWorthGoing 25 = .ok (.getfield 34, 3) := by decide +kernel
theorem dX12_isWorthGoing_28 : decode cX12_isWorthGoing 28 = .ok (.iconst 2, 1) := by decide +kernel
theorem dX12_isWorthGoing_29 : decode cX12_isWorthGoing 29 = .ok (.iaload, 1) := by decide +kernel
theorem dX12_isWorthGoing_30 : decode cX12_isWorthGoing 30 = .ok (.if_icmp .le 5, 3) := by decide +kernel
theorem dX12_isWorthGoing_33 : decode cX12_isWorthGoing 33 = .ok (.iconst 0, 1) := by decide +kernel
theorem dX12_isWorthGoing_34 : decode cX12_isWorthGoing 34 = .ok (.ireturn, 1) := by decide +kernel
theorem dX12_isWorthGoing_35 : decode cX12_isWorthGoing 35 = .ok (.iconst 0, 1) := by decide +kernel
theorem dX12_isWorthGoing_36 : decode cX12_isWorthGoing 36 = .ok (.istore_n 3, 1) := by decide +kernel
theorem dX12_isWorthGoing_37 : decode cX12_isWorthGoing 37 = .ok (.iload_n 3, 1) := by decide +kernel
theorem dX12_isWorthGoing_38 : decode cX12_isWorthGoing 38 = .ok (.aload_n 0, 1) := by decide +kernel
theorem dX12_isWorthGoing_39 : decode cX12_isWorthGoing 39 = .ok (.getfield 113, 3) := by decide +kernel
theorem dX12_isWorthGoing_42 : decode cX12_isWorthGoing 42 = .ok (.if_icmp .ge 45, 3) := by decide +kernel
theorem dX12_isWorthGoing_45 : decode cX12_isWorthGoing 45 = .ok (.aload_n 0, 1) := by decide +kernel
theorem dX12_isWorthGoing_46 : decode cX12_isWorthGoing 46 = .ok (.getfield 25, 3) := by decide +kernel
theorem dX12_isWorthGoing_49 : decode cX12_isWorthGoing 49 = .ok (.iload_n 3, 1) := by decide +kernel
theorem dX12_isWorthGoing_50 : decode cX12_isWorthGoing 50 = .ok (.iaload, 1) := by decide +kernel
theorem dX12_isWorthGoing_51 : decode cX12_isWorthGoing 51 = .ok (.iload_n 1, 1) := by decide +kernel
theorem dX12_isWorthGoing_52 : decode cX12_isWorthGoing 52 = .ok (.if_icmp .ne 29, 3) := by decide +kernel
theorem dX12_isWorthGoing_55 : decode cX12_isWorthGoing 55 = .ok (.aload_n 0, 1) := by decide +kernel
theorem dX12_isWorthGoing_56 : decode cX12_isWorthGoing 56 = .ok (.iload_n 3, 1) := by decide +kernel
theorem dX12_isWorthGoing_57 : decode cX12_isWorthGoing 57 = .ok (.iload_n 2, 1) := by decide +kernel
theorem dX12_isWorthGoing_58 : decode cX12_isWorthGoing 58 = .ok (.invokevirtual 225, 3) := by decide +kernel
theorem dX12_isWorthGoing_61 : decode cX12_isWorthGoing 61 = .ok (.ifCond .eq 20, 3) := by decide +kernel
theorem dX12_isWorthGoing_64 : decode cX12_isWorthGoing 64 = .ok (.aload_n 0, 1) := by decide +kernel
theorem dX12_isWorthGoing_65 : decode cX12_isWorthGoing 65 = .ok (.iload_n 3, 1) := by decide +kernel
theorem dX12_isWorthGoing_66 : decode cX12_isWorthGoing 66 = .ok (.iload_n 2, 1) := by decide +kernel
theorem dX12_isWorthGoing_67 : decode cX12_isWorthGoing 67 = .ok (.aload_n 0, 1) := by decide +kernel
theorem dX12_isWorthGoing_68 : decode cX12_isWorthGoing 68 = .ok (.getfield 83, 3) := by decide +kernel
theorem dX12_isWorthGoing_71 : decode cX12_isWorthGoing 71 = .ok (.iload_n 3, 1) := by decide +kernel
theorem dX12_isWorthGoing_72 : decode cX12_isWorthGoing 72 = .ok (.iaload, 1) := by decide +kernel
theorem dX12_isWorthGoing_73 : decode cX12_isWorthGoing 73 = .ok (.invokevirtual 222, 3) := by decide +kernel
theorem dX12_isWorthGoing_76 : decode cX12_isWorthGoing 76 = .ok (.ifCond .le 5, 3) := by decide +kernel
theorem dX12_isWorthGoing_79 : decode cX12_isWorthGoing 79 = .ok (.iconst 1, 1) := by decide +kernel
theorem dX12_isWorthGoing_80 : decode cX12_isWorthGoing 80 = .ok (.ireturn, 1) := by decide +kernel
theorem dX12_isWorthGoing_81 : decode cX12_isWorthGoing 81 = .ok (.iinc 3 1, 3) := by decide +kernel
theorem dX12_isWorthGoing_84 : decode cX12_isWorthGoing 84 = .ok (.goto (-47), 3) := by decide +kernel
theorem dX12_isWorthGoing_87 : decode cX12_isWorthGoing 87 = .ok (.iconst 0, 1) := by decide +kernel
theorem dX12_isWorthGoing_88 : decode cX12_isWorthGoing 88 = .ok (.ireturn, 1) := by decide +kernel
theorem dX12_nextPlace_0 : decode cX12_nextPlace 0 = .ok (.iconst (-1), 1) := by decide +kernel
theorem dX12_nextPlace_1 : decode cX12_nextPlace 1 = .ok (.istore_n 2, 1) := by decide +kernel
theorem dX12_nextPlace_2 : decode cX12_nextPlace 2 = .ok (.iconst 0, 1) := by decide +kernel
theorem dX12_nextPlace_3 : decode cX12_nextPlace 3 = .ok (.istore_n 3, 1) := by decide +kernel
theorem dX12_nextPlace_4 : decode cX12_nextPlace 4 = .ok (.iload_n 3, 1) := by decide +kernel
theorem dX12_nextPlace_5 : decode cX12_nextPlace 5 = .ok (.aload_n 0, 1) := by decide +kernel
theorem dX12_nextPlace_6 : decode cX12_nextPlace 6 = .ok (.getfield 52, 3) := by decide +kernel
theorem dX12_nextPlace_9 : decode cX12_nextPlace 9 = .ok (.if_icmp .ge 75, 3) := by decide +kernel
theorem dX12_nextPlace_12 : decode cX12_nextPlace 12 = .ok (.aload_n 0, 1) := by decide +kernel
theorem dX12_nextPlace_13 : decode cX12_nextPlace 13 = .ok (.iload_n 3, 1) := by decide +kernel
theorem dX12_nextPlace_14 : decode cX12_nextPlace 14 = .ok (.invokevirtual 247, 3) := by decide +kernel
theorem dX12_nextPlace_17 : decode cX12_nextPlace 17 = .ok (.ifCond .ne 6, 3) := by decide +kernel
theorem dX12_nextPlace_20 : decode cX12_nextPlace 20 = .ok (.goto 58, 3) := by decide +kernel
theorem dX12_nextPlace_23 : decode cX12_nextPlace 23 = .ok (.iload_n 2, 1) := by decide +kernel
theorem dX12_nextPlace_24 : decode cX12_nextPlace 24 = .ok (.ifCond .lt 52, 3) := by decide +kernel
theorem dX12_nextPlace_27 : decode cX12_nextPlace 27 = .ok (.iload_n 1, 1) := by decide +kernel
theorem dX12_nextPlace_28 : decode cX12_nextPlace 28 = .ok (.ifCond .eq 27, 3) := by decide +kernel
theorem dX12_nextPlace_31 : decode cX12_nextPlace 31 = .ok (.aload_n 0, 1) := by decide +kernel
theorem dX12_nextPlace_32 : decode cX12_nextPlace 32 = .ok (.aload_n 0, 1) := by decide +kernel
theorem dX12_nextPlace_33 : decode cX12_nextPlace 33 = .ok (.getfield 163, 3) := by decide +kernel
theorem dX12_nextPlace_36 : decode cX12_nextPlace 36 = .ok (.iload_n 3, 1) := by decide +kernel
theorem dX12_nextPlace_37 : decode cX12_nextPlace 37 = .ok (.invokevirtual 218, 3) := by decide +kernel
theorem dX12_nextPlace_40 : decode cX12_nextPlace 40 = .ok (.aload_n 0, 1) := by decide +kernel
theorem dX12_nextPlace_41 : decode cX12_nextPlace 41 = .ok (.aload_n 0, 1) := by decide +kernel
theorem dX12_nextPlace_42 : decode cX12_nextPlace 42 = .ok (.getfield 163, 3) := by decide +kernel
theorem dX12_nextPlace_45 : decode cX12_nextPlace 45 = .ok (.iload_n 2, 1) := by decide +kernel
theorem dX12_nextPlace_46 : decode cX12_nextPlace 46 = .ok (.invokevirtual 218, 3) := by decide +kernel
theorem dX12_nextPlace_49 : decode cX12_nextPlace 49 = .ok (.if_icmp .le 29, 3) := by decide +kernel
theorem dX12_nextPlace_52 : decode cX12_nextPlace 52 = .ok (.goto 24, 3) := by decide +kernel
theorem dX12_nextPlace_55 : decode cX12_nextPlace 55 = .ok (.aload_n 0, 1) := by decide +kernel
theorem dX12_nextPlace_56 : decode cX12_nextPlace 56 = .ok (.aload_n 0, 1) := by decide +kernel
theorem dX12_nextPlace_57 : decode cX12_nextPlace 57 = .ok (.getfield 163, 3) := by decide +kernel
theorem dX12_nextPlace_60 : decode cX12_nextPlace 60 = .ok (.iload_n 3, 1) := by decide +kernel
theorem dX12_nextPlace_61 : decode cX12_nextPlace 61 = .ok (.invokevirtual 218, 3) := by decide +kernel
theorem dX12_nextPlace_64 : decode cX12_nextPlace 64 = .ok (.aload_n 0, 1) := by decide +kernel
theorem dX12_nextPlace_65 : decode cX12_nextPlace 65 = .ok (.aload_n 0, 1) := by decide +kernel
theorem dX12_nextPlace_66 : decode cX12_nextPlace 66 = .ok (.getfield 163, 3) := by decide +kernel
theorem dX12_nextPlace_69 : decode cX12_nextPlace 69 = .ok (.iload_n 2, 1) := by decide +kernel
theorem dX12_nextPlace_70 : decode cX12_nextPlace 70 = .ok (.invokevirtual 218, 3) := by decide +kernel
theorem dX12_nextPlace_73 : decode cX12_nextPlace 73 = .ok (.if_icmp .ge 5, 3) := by decide +kernel
theorem dX12_nextPlace_76 : decode cX12_nextPlace 76 = .ok (.iload_n 3, 1) := by decide +kernel
theorem dX12_nextPlace_77 : decode cX12_nextPlace 77 = .ok (.istore_n 2, 1) := by decide +kernel
theorem dX12_nextPlace_78 : decode cX12_nextPlace 78 = .ok (.iinc 3 1, 3) := by decide +kernel
theorem dX12_nextPlace_81 : decode cX12_nextPlace 81 = .ok (.goto (-77), 3) := by decide +kernel
theorem dX12_nextPlace_84 : decode cX12_nextPlace 84 = .ok (.iload_n 2, 1) := by decide +kernel
theorem dX12_nextPlace_85 : decode cX12_nextPlace 85 = .ok (.ireturn, 1) := by decide +kernel
theorem dX12_lives_0 : decode cX12_lives 0 = .ok (.aload_n 0, 1) := by decide +kernel
theorem dX12_lives_1 : decode cX12_lives 1 = .ok (.aload_n 0, 1) := by decide +kernel
theorem dX12_lives_2 : decode cX12_lives 2 = .ok (.getfield 34, 3) := by decide +kernel
theorem dX12_lives_5 : decode cX12_lives 5 = .ok (.iconst 3, 1) := by decide +kernel
theorem dX12_lives_6 : decode cX12_lives 6 = .ok (.iaload, 1) := by decide +kernel
theorem dX12_lives_7 : decode cX12_lives 7 = .ok (.invokevirtual 242, 3) := by decide +kernel
theorem dX12_lives_10 : decode cX12_lives 10 = .ok (.aload_n 0, 1) := by decide +kernel
theorem dX12_lives_11 : decode cX12_lives 11 = .ok (.iconst 1, 1) := by decide +kernel
theorem dX12_lives_12 : decode cX12_lives 12 = .ok (.invokevirtual 250, 3) := by decide +kernel
theorem dX12_lives_15 : decode cX12_lives 15 = .ok (.iload_n 1, 1) := by decide +kernel
theorem dX12_lives_16 : decode cX12_lives 16 = .ok (.iconst 2, 1) := by decide +kernel
theorem dX12_lives_17 : decode cX12_lives 17 = .ok (.if_icmp .ge 50, 3) := by decide +kernel
theorem dX12_lives_20 : decode cX12_lives 20 = .ok (.aload_n 0, 1) := by decide +kernel
theorem dX12_lives_21 : decode cX12_lives 21 = .ok (.iload_n 1, 1) := by decide +kernel
theorem dX12_lives_22 : decode cX12_lives 22 = .ok (.iconst 1, 1) := by decide +kernel
theorem dX12_lives_23 : decode cX12_lives 23 = .ok (.if_icmp .ne 7, 3) := by decide +kernel
theorem dX12_lives_26 : decode cX12_lives 26 = .ok (.iconst 1, 1) := by decide +kernel
theorem dX12_lives_27 : decode cX12_lives 27 = .ok (.goto 4, 3) := by decide +kernel
theorem dX12_lives_30 : decode cX12_lives 30 = .ok (.iconst 0, 1) := by decide +kernel
theorem dX12_lives_31 : decode cX12_lives 31 = .ok (.invokevirtual 254, 3) := by decide +kernel
theorem dX12_lives_34 : decode cX12_lives 34 = .ok (.istore_n 2, 1) := by decide +kernel
theorem dX12_lives_35 : decode cX12_lives 35 = .ok (.iload_n 2, 1) := by decide +kernel
theorem dX12_lives_36 : decode cX12_lives 36 = .ok (.ifCond .lt 31, 3) := by decide +kernel
theorem dX12_lives_39 : decode cX12_lives 39 = .ok (.aload_n 0, 1) := by decide +kernel
theorem dX12_lives_40 : decode cX12_lives 40 = .ok (.iload_n 2, 1) := by decide +kernel
theorem dX12_lives_41 : decode cX12_lives 41 = .ok (.invokevirtual 232, 3) := by decide +kernel
theorem dX12_lives_44 : decode cX12_lives 44 = .ok (.aload_n 0, 1) := by decide +kernel
theorem dX12_lives_45 : decode cX12_lives 45 = .ok (.iconst 1, 1) := by decide +kernel
theorem dX12_lives_46 : decode cX12_lives 46 = .ok (.invokevirtual 250, 3) := by decide +kernel
theorem dX12_lives_49 : decode cX12_lives 49 = .ok (.aload_n 0, 1) := by decide +kernel
theorem dX12_lives_50 : decode cX12_lives 50 = .ok (.iload_n 1, 1) := by decide +kernel
theorem dX12_lives_51 : decode cX12_lives 51 = .ok (.iconst 1, 1) := by decide +kernel
theorem dX12_lives_52 : decode cX12_lives 52 = .ok (.if_icmp .ne 7, 3) := by decide +kernel
theorem dX12_lives_55 : decode cX12_lives 55 = .ok (.iconst 1, 1) := by decide +kernel
theorem dX12_lives_56 : decode cX12_lives 56 = .ok (.goto 4, 3) := by decide +kernel
theorem dX12_lives_59 : decode cX12_lives 59 = .ok (.iconst 0, 1) := by decide +kernel
theorem dX12_lives_60 : decode cX12_lives 60 = .ok (.invokevirtual 254, 3) := by decide +kernel
theorem dX12_lives_63 : decode cX12_lives 63 = .ok (.istore_n 2, 1) := by decide +kernel
theorem dX12_lives_64 : decode cX12_lives 64 = .ok (.goto (-29), 3) := by decide +kernel
theorem dX12_lives_67 : decode cX12_lives 67 = .ok (.iconst 0, 1) := by decide +kernel
theorem dX12_lives_68 : decode cX12_lives 68 = .ok (.istore_n 2, 1) := by decide +kernel
theorem dX12_lives_69 : decode cX12_lives 69 = .ok (.iload_n 2, 1) := by decide +kernel
theorem dX12_lives_70 : decode cX12_lives 70 = .ok (.aload_n 0, 1) := by decide +kernel
theorem dX12_lives_71 : decode cX12_lives 71 = .ok (.getfield 169, 3) := by decide +kernel
theorem dX12_lives_74 : decode cX12_lives 74 = .ok (.if_icmp .ge 45, 3) := by decide +kernel
theorem dX12_lives_77 : decode cX12_lives 77 = .ok (.iload_n 1, 1) := by decide +kernel
theorem dX12_lives_78 : decode cX12_lives 78 = .ok (.iconst 2, 1) := by decide +kernel
theorem dX12_lives_79 : decode cX12_lives 79 = .ok (.if_icmp .ne 40, 3) := by decide +kernel
theorem dX12_lives_82 : decode cX12_lives 82 = .ok (.aload_n 0, 1) := by decide +kernel
theorem dX12_lives_83 : decode cX12_lives 83 = .ok (.aload_n 0, 1) := by decide +kernel
theorem dX12_lives_84 : decode cX12_lives 84 = .ok (.getfield 49, 3) := by decide +kernel
theorem dX12_lives_87 : decode cX12_lives 87 = .ok (.iload_n 2, 1) := by decide +kernel
theorem dX12_lives_88 : decode cX12_lives 88 = .ok (.iaload, 1) := by decide +kernel
theorem dX12_lives_89 : decode cX12_lives 89 = .ok (.invokevirtual 229, 3) := by decide +kernel
theorem dX12_lives_92 : decode cX12_lives 92 = .ok (.ifCond .ne 6, 3) := by decide +kernel
theorem dX12_lives_95 : decode cX12_lives 95 = .ok (.goto 18, 3) := by decide +kernel
theorem dX12_lives_98 : decode cX12_lives 98 = .ok (.aload_n 0, 1) := by decide +kernel
theorem dX12_lives_99 : decode cX12_lives 99 = .ok (.aload_n 0, 1) := by decide +kernel
theorem dX12_lives_100 : decode cX12_lives 100 = .ok (.getfield 49, 3) := by decide +kernel
theorem dX12_lives_103 : decode cX12_lives 103 = .ok (.iload_n 2, 1) := by decide +kernel
theorem dX12_lives_104 : decode cX12_lives 104 = .ok (.iaload, 1) := by decide +kernel
theorem dX12_lives_105 : decode cX12_lives 105 = .ok (.invokevirtual 232, 3) := by decide +kernel
theorem dX12_lives_108 : decode cX12_lives 108 = .ok (.aload_n 0, 1) := by decide +kernel
theorem dX12_lives_109 : decode cX12_lives 109 = .ok (.iconst 1, 1) := by decide +kernel
theorem dX12_lives_110 : decode cX12_lives 110 = .ok (.invokevirtual 250, 3) := by decide +kernel
theorem dX12_lives_113 : decode cX12_lives 113 = .ok (.iinc 2 1, 3) := by decide +kernel
theorem dX12_lives_116 : decode cX12_lives 116 = .ok (.goto (-47), 3) := by decide +kernel
theorem dX12_lives_119 : decode cX12_lives 119 = .ok (.return_, 1) := by decide +kernel
theorem dX12_lived_0 : decode cX12_lived 0 = .ok (.iload_n 1, 1) := by decide +kernel
theorem dX12_lived_1 : decode cX12_lived 1 = .ok (.iconst 0, 1) := by decide +kernel
theorem dX12_lived_2 : decode cX12_lived 2 = .ok (.iconst 3, 1) := by decide +kernel
theorem dX12_lived_3 : decode cX12_lived 3 = .ok (.invokestatic 140, 3) := by decide +kernel
theorem dX12_lived_6 : decode cX12_lived 6 = .ok (.ifCond .eq 12, 3) := by decide +kernel
theorem dX12_lived_9 : decode cX12_lived 9 = .ok (.iload_n 2, 1) := by decide +kernel
theorem dX12_lived_10 : decode cX12_lived 10 = .ok (.iconst 0, 1) := by decide +kernel
theorem dX12_lived_11 : decode cX12_lived 11 = .ok (.iconst 1, 1) := by decide +kernel
theorem dX12_lived_12 : decode cX12_lived 12 = .ok (.invokestatic 140, 3) := by decide +kernel
theorem dX12_lived_15 : decode cX12_lived 15 = .ok (.ifCond .ne 10, 3) := by decide +kernel
theorem dX12_lived_18 : decode cX12_lived 18 = .ok (.aload_n 0, 1) := by decide +kernel
theorem dX12_lived_19 : decode cX12_lived 19 = .ok (.bipush (-2), 2) := by decide +kernel
theorem dX12_lived_21 : decode cX12_lived 21 = .ok (.invokevirtual 127, 3) := by decide +kernel
theorem dX12_lived_24 : decode cX12_lived 24 = .ok (.ireturn, 1) := by decide +kernel
theorem dX12_lived_25 : decode cX12_lived 25 = .ok (.aload_n 0, 1) := by decide +kernel
theorem dX12_lived_26 : decode cX12_lived 26 = .ok (.invokevirtual 215, 3) := by decide +kernel
theorem dX12_lived_29 : decode cX12_lived 29 = .ok (.aload_n 0, 1) := by decide +kernel
theorem dX12_lived_30 : decode cX12_lived 30 = .ok (.iconst 1, 1) := by decide +kernel
theorem dX12_lived_31 : decode cX12_lived 31 = .ok (.iconst 1, 1) := by decide +kernel
theorem dX12_lived_32 : decode cX12_lived 32 = .ok (.invokevirtual 188, 3) := by decide +kernel
theorem dX12_lived_35 : decode cX12_lived 35 = .ok (.aload_n 0, 1) := by decide +kernel
theorem dX12_lived_36 : decode cX12_lived 36 = .ok (.iload_n 1, 1) := by decide +kernel
theorem dX12_lived_37 : decode cX12_lived 37 = .ok (.invokevirtual 258, 3) := by decide +kernel
theorem dX12_lived_40 : decode cX12_lived 40 = .ok (.iload_n 2, 1) := by decide +kernel
theorem dX12_lived_41 : decode cX12_lived 41 = .ok (.ifCond .ne 10, 3) := by decide +kernel
theorem dX12_lived_44 : decode cX12_lived 44 = .ok (.aload_n 0, 1) := by decide +kernel
theorem dX12_lived_45 : decode cX12_lived 45 = .ok (.getfield 212, 3) := by decide +kernel
theorem dX12_lived_48 : decode cX12_lived 48 = .ok (.goto 7, 3) := by decide +kernel
theorem dX12_lived_51 : decode cX12_lived 51 = .ok (.aload_n 0, 1) := by decide +kernel
theorem dX12_lived_52 : decode cX12_lived 52 = .ok (.getfield 209, 3) := by decide +kernel
theorem dX12_lived_55 : decode cX12_lived 55 = .ok (.istore_n 3, 1) := by decide +kernel
theorem dX12_lived_56 : decode cX12_lived 56 = .ok (.aload_n 0, 1) := by decide +kernel
theorem dX12_lived_57 : decode cX12_lived 57 = .ok (.iconst 1, 1) := by decide +kernel
theorem dX12_lived_58 : decode cX12_lived 58 = .ok (.iconst 0, 1) := by decide +kernel
theorem dX12_lived_59 : decode cX12_lived 59 = .ok (.invokevirtual 188, 3) := by decide +kernel
theorem dX12_lived_62 : decode cX12_lived 62 = .ok (.iload_n 3, 1) := by decide +kernel
theorem dX12_lived_63 : decode cX12_lived 63 = .ok (.ireturn, 1) := by decide +kernel
theorem dX12_findBest_0 : decode cX12_findBest 0 = .ok (.aload_n 0, 1) := by decide +kernel
theorem dX12_findBest_1 : decode cX12_findBest 1 = .ok (.iconst 1, 1) := by decide +kernel
theorem dX12_findBest_2 : decode cX12_findBest 2 = .ok (.iconst 1, 1) := by decide +kernel
theorem dX12_findBest_3 : decode cX12_findBest 3 = .ok (.invokevirtual 188, 3) := by decide +kernel
theorem dX12_findBest_6 : decode cX12_findBest 6 = .ok (.aload_n 0, 1) := by decide +kernel
theorem dX12_findBest_7 : decode cX12_findBest 7 = .ok (.iload_n 1, 1) := by decide +kernel
theorem dX12_findBest_8 : decode cX12_findBest 8 = .ok (.invokevirtual 242, 3) := by decide +kernel
theorem dX12_findBest_11 : decode cX12_findBest 11 = .ok (.aload_n 0, 1) := by decide +kernel
theorem dX12_findBest_12 : decode cX12_findBest 12 = .ok (.iconst 0, 1) := by decide +kernel
theorem dX12_findBest_13 : decode cX12_findBest 13 = .ok (.putfield 261, 3) := by decide +kernel
theorem dX12_findBest_16 : decode cX12_findBest 16 = .ok (.aload_n 0, 1) := by decide +kernel
theorem dX12_findBest_17 : decode cX12_findBest 17 = .ok (.iconst 0, 1) := by decide +kernel
theorem dX12_findBest_18 : decode cX12_findBest 18 = .ok (.putfield 264, 3) := by decide +kernel
theorem dX12_findBest_21 : decode cX12_findBest 21 = .ok (.iconst 0, 1) := by decide +kernel
theorem dX12_findBest_22 : decode cX12_findBest 22 = .ok (.istore_n 2, 1) := by decide +kernel
theorem dX12_findBest_23 : decode cX12_findBest 23 = .ok (.iconst 0, 1) := by decide +kernel
theorem dX12_findBest_24 : decode cX12_findBest 24 = .ok (.istore_n 3, 1) := by decide +kernel
theorem dX12_findBest_25 : decode cX12_findBest 25 = .ok (.aload_n 0, 1) := by decide +kernel
theorem dX12_findBest_26 : decode cX12_findBest 26 = .ok (.getfield 98, 3) := by decide +kernel
theorem dX12_findBest_29 : decode cX12_findBest 29 = .ok (.iconst 0, 1) := by decide +kernel
theorem dX12_findBest_30 : decode cX12_findBest 30 = .ok (.iload_n 1, 1) := by decide +kernel
theorem dX12_findBest_31 : decode cX12_findBest 31 = .ok (.iastore, 1) := by decide +kernel
theorem dX12_findBest_32 : decode cX12_findBest 32 = .ok (.aload_n 0, 1) := by decide +kernel
theorem dX12_findBest_33 : decode cX12_findBest 33 = .ok (.getfield 92, 3) := by decide +kernel
theorem dX12_findBest_36 : decode cX12_findBest 36 = .ok (.iconst 0, 1) := by decide +kernel
theorem dX12_findBest_37 : decode cX12_findBest 37 = .ok (.iconst 0, 1) := by decide +kernel
theorem dX12_findBest_38 : decode cX12_findBest 38 = .ok (.iastore, 1) := by decide +kernel
theorem dX12_findBest_39 : decode cX12_findBest 39 = .ok (.aload_n 0, 1) := by decide +kernel
theorem dX12_findBest_40 : decode cX12_findBest 40 = .ok (.getfield 95, 3) := by decide +kernel
theorem dX12_findBest_43 : decode cX12_findBest 43 = .ok (.iconst 0, 1) := by decide +kernel
theorem dX12_findBest_44 : decode cX12_findBest 44 = .ok (.iconst 0, 1) := by decide +kernel
theorem dX12_findBest_45 : decode cX12_findBest 45 = .ok (.iastore, 1) := by decide +kernel
theorem dX12_findBest_46 : decode cX12_findBest 46 = .ok (.iload_n 2, 1) := by decide +kernel
theorem dX12_findBest_47 : decode cX12_findBest 47 = .ok (.ifCond .lt 242, 3) := by decide +kernel
theorem dX12_findBest_50 : decode cX12_findBest 50 = .ok (.iload_n 3, 1) := by decide +kernel
theorem dX12_findBest_51 : decode cX12_findBest 51 = .ok (.aload_n 0, 1) := by decide +kernel
theorem dX12_findBest_52 : decode cX12_findBest 52 = .ok (.getfield 113, 3) := by decide +kernel
theorem dX12_findBest_55 : decode cX12_findBest 55 = .ok (.if_icmp .ne 34, 3) := by decide +kernel
theorem dX12_findBest_58 : decode cX12_findBest 58 = .ok (.iinc 2 (-1), 3) := by decide +kernel
theorem dX12_findBest_61 : decode cX12_findBest 61 = .ok (.iload_n 2, 1) := by decide +kernel
theorem dX12_findBest_62 : decode cX12_findBest 62 = .ok (.ifCond .lt (-16), 3) := by decide +kernel
theorem dX12_findBest_65 : decode cX12_findBest 65 = .ok (.aload_n 0, 1) := by decide +kernel
theorem dX12_findBest_66 : decode cX12_findBest 66 = .ok (.getfield 86, 3) := by decide +kernel
theorem dX12_findBest_69 : decode cX12_findBest 69 = .ok (.iload_n 2, 1) := by decide +kernel
theorem dX12_findBest_70 : decode cX12_findBest 70 = .ok (.iaload, 1) := by decide +kernel
theorem dX12_findBest_71 : decode cX12_findBest 71 = .ok (.iconst 1, 1) := by decide +kernel
theorem dX12_findBest_72 : decode cX12_findBest 72 = .ok (.iadd, 1) := by decide +kernel
theorem dX12_findBest_73 : decode cX12_findBest 73 = .ok (.istore_n 3, 1) := by decide +kernel
theorem dX12_findBest_74 : decode cX12_findBest 74 = .ok (.aload_n 0, 1) := by decide +kernel
theorem dX12_findBest_75 : decode cX12_findBest 75 = .ok (.getfield 83, 3) := by decide +kernel
theorem dX12_findBest_78 : decode cX12_findBest 78 = .ok (.aload_n 0, 1) := by decide +kernel
theorem dX12_findBest_79 : decode cX12_findBest 79 = .ok (.getfield 86, 3) := by decide +kernel
theorem dX12_findBest_82 : decode cX12_findBest 82 = .ok (.iload_n 2, 1) := by decide +kernel
theorem dX12_findBest_83 : decode cX12_findBest 83 = .ok (.iaload, 1) := by decide +kernel
theorem dX12_findBest_84 : decode cX12_findBest 84 = .ok (.iconst 0, 1) := by decide +kernel
theorem dX12_findBest_85 : decode cX12_findBest 85 = .ok (.iastore, 1) := by decide +kernel
theorem dX12_findBest_86 : decode cX12_findBest 86 = .ok (.goto (-40), 3) := by decide +kernel
theorem dX12_findBest_89 : decode cX12_findBest 89 = .ok (.iload_n 3, 1) := by decide +kernel
theorem dX12_findBest_90 : decode cX12_findBest 90 = .ok (.istore 4, 2) := by decide +kernel
theorem dX12_findBest_92 : decode cX12_findBest 92 = .ok (.iinc 3 1, 3) := by decide +kernel
theorem dX12_findBest_95 : decode cX12_findBest 95 = .ok (.aload_n 0, 1) := by decide +kernel
theorem dX12_findBest_96 : decode cX12_findBest 96 = .ok (.getfield 92, 3) := by decide +kernel
theorem dX12_findBest_99 : decode cX12_findBest 99 = .ok (.iload_n 2, 1) := by decide +kernel
theorem dX12_findBest_100 : decode cX12_findBest 100 = .ok (.iaload, 1) := by decide +kernel
theorem dX12_findBest_101 : decode cX12_findBest 101 = .ok (.aload_n 0, 1) := by decide +kernel
theorem dX12_findBest_102 : decode cX12_findBest 102 = .ok (.aload_n 0, 1) := by decide +kernel
theorem dX12_findBest_103 : decode cX12_findBest 103 = .ok (.getfield 98, 3) := by decide +kernel
theorem dX12_findBest_106 : decode cX12_findBest 106 = .ok (.iload_n 2, 1) := by decide +kernel
theorem dX12_findBest_107 : decode cX12_findBest 107 = .ok (.iaload, 1) := by decide +kernel
theorem dX12_findBest_108 : decode cX12_findBest 108 = .ok (.aload_n 0, 1) := by decide +kernel
theorem dX12_findBest_109 : decode cX12_findBest 109 = .ok (.getfield 25, 3) := by decide +kernel
theorem dX12_findBest_112 : decode cX12_findBest 112 = .ok (.iload 4, 2) := by decide +kernel
theorem dX12_findBest_114 : decode cX12_findBest 114 = .ok (.iaload, 1) := by decide +kernel
theorem dX12_findBest_115 : decode cX12_findBest 115 = .ok (.invokevirtual 218, 3) := by decide +kernel
theorem dX12_findBest_118 : decode cX12_findBest 118 = .ok (.iadd, 1) := by decide +kernel
theorem dX12_findBest_119 : decode cX12_findBest 119 = .ok (.istore 5, 2) := by decide +kernel
theorem dX12_findBest_121 : decode cX12_findBest 121 = .ok (.aload_n 0, 1) := by decide +kernel
theorem dX12_findBest_122 : decode cX12_findBest 122 = .ok (.getfield 83, 3) := by decide +kernel
theorem dX12_findBest_125 : decode cX12_findBest 125 = .ok (.iload 4, 2) := by decide +kernel
theorem dX12_findBest_127 : decode cX12_findBest 127 = .ok (.iaload, 1) := by decide +kernel
theorem dX12_findBest_128 : decode cX12_findBest 128 = .ok (.ifCond .gt (-82), 3) := by decide +kernel
theorem dX12_findBest_131 : decode cX12_findBest 131 = .ok (.iload 5, 2) := by decide +kernel
theorem dX12_findBest_133 : decode cX12_findBest 133 = .ok (.aload_n 0, 1) := by decide +kernel
theorem dX12_findBest_134 : decode cX12_findBest 134 = .ok (.getfield 34, 3) := by decide +kernel
theorem dX12_findBest_137 : decode cX12_findBest 137 = .ok (.iconst 2, 1) := by decide +kernel
theorem dX12_findBest_138 : decode cX12_findBest 138 = .ok (.iaload, 1) := by decide +kernel
theorem dX12_findBest_139 : decode cX12_findBest 139 = .ok (.if_icmp .gt (-93), 3) := by decide +kernel
theorem dX12_findBest_142 : decode cX12_findBest 142 = .ok (.aload_n 0, 1) := by decide +kernel
theorem dX12_findBest_143 : decode cX12_findBest 143 = .ok (.iload 4, 2) := by decide +kernel
theorem dX12_findBest_145 : decode cX12_findBest 145 = .ok (.iload 5, 2) := by decide +kernel
theorem dX12_findBest_147 : decode cX12_findBest 147 = .ok (.invokevirtual 225, 3) := by decide +kernel
theorem dX12_findBest_150 : decode cX12_findBest 150 = .ok (.ifCond .ne 6, 3) := by decide +kernel
theorem dX12_findBest_153 : decode cX12_findBest 153 = .ok (.goto (-107), 3) := by decide +kernel
theorem dX12_findBest_156 : decode cX12_findBest 156 = .ok (.aload_n 0, 1) := by decide +kernel
theorem dX12_findBest_157 : decode cX12_findBest 157 = .ok (.getfield 86, 3) := by decide +kernel
theorem dX12_findBest_160 : decode cX12_findBest 160 = .ok (.iload_n 2, 1) := by decide +kernel
theorem dX12_findBest_161 : decode cX12_findBest 161 = .ok (.iload 4, 2) := by decide +kernel
theorem dX12_findBest_163 : decode cX12_findBest 163 = .ok (.iastore, 1) := by decide +kernel
theorem dX12_findBest_164 : decode cX12_findBest 164 = .ok (.aload_n 0, 1) := by decide +kernel
theorem dX12_findBest_165 : decode cX12_findBest 165 = .ok (.getfield 95, 3) := by decide +kernel
theorem dX12_findBest_168 : decode cX12_findBest 168 = .ok (.iload_n 2, 1) := by decide +kernel
theorem dX12_findBest_169 : decode cX12_findBest 169 = .ok (.iconst 1, 1) := by decide +kernel
theorem dX12_findBest_170 : decode cX12_findBest 170 = .ok (.iadd, 1) := by decide +kernel
theorem dX12_findBest_171 : decode cX12_findBest 171 = .ok (.aload_n 0, 1) := by decide +kernel
theorem dX12_findBest_172 : decode cX12_findBest 172 = .ok (.getfield 95, 3) := by decide +kernel
theorem dX12_findBest_175 : decode cX12_findBest 175 = .ok (.iload_n 2, 1) := by decide +kernel
theorem dX12_findBest_176 : decode cX12_findBest 176 = .ok (.iaload, 1) := by decide +kernel
theorem dX12_findBest_177 : decode cX12_findBest 177 = .ok (.aload_n 0, 1) := by decide +kernel
theorem dX12_findBest_178 : decode cX12_findBest 178 = .ok (.iload 4, 2) := by decide +kernel
theorem dX12_findBest_180 : decode cX12_findBest 180 = .ok (.iload 5, 2) := by decide +kernel
theorem dX12_findBest_182 : decode cX12_findBest 182 = .ok (.iconst 0, 1) := by decide +kernel
theorem dX12_findBest_183 : decode cX12_findBest 183 = .ok (.invokevirtual 222, 3) := by decide +kernel
theorem dX12_findBest_186 : decode cX12_findBest 186 = .ok (.iadd, 1) := by decide +kernel
theorem dX12_findBest_187 : decode cX12_findBest 187 = .ok (.iastore, 1) := by decide +kernel
theorem dX12_findBest_188 : decode cX12_findBest 188 = .ok (.aload_n 0, 1) := by decide +kernel
theorem dX12_findBest_189 : decode cX12_findBest 189 = .ok (.getfield 92, 3) := by decide +kernel
theorem dX12_findBest_192 : decode cX12_findBest 192 = .ok (.iload_n 2, 1) := by decide +kernel
theorem dX12_findBest_193 : decode cX12_findBest 193 = .ok (.iconst 1, 1) := by decide +kernel
theorem dX12_findBest_194 : decode cX12_findBest 194 = .ok (.iadd, 1) := by decide +kernel
theorem dX12_findBest_195 : decode cX12_findBest 195 = .ok (.iload 5, 2) := by decide +kernel
theorem dX12_findBest_197 : decode cX12_findBest 197 = .ok (.iastore, 1) := by decide +kernel
theorem dX12_findBest_198 : decode cX12_findBest 198 = .ok (.aload_n 0, 1) := by decide +kernel
theorem dX12_findBest_199 : decode cX12_findBest 199 = .ok (.getfield 98, 3) := by decide +kernel
theorem dX12_findBest_202 : decode cX12_findBest 202 = .ok (.iload_n 2, 1) := by decide +kernel
theorem dX12_findBest_203 : decode cX12_findBest 203 = .ok (.iconst 1, 1) := by decide +kernel
theorem dX12_findBest_204 : decode cX12_findBest 204 = .ok (.iadd, 1) := by decide +kernel
theorem dX12_findBest_205 : decode cX12_findBest 205 = .ok (.aload_n 0, 1) := by decide +kernel
theorem dX12_findBest_206 : decode cX12_findBest 206 = .ok (.getfield 25, 3) := by decide +kernel
theorem dX12_findBest_209 : decode cX12_findBest 209 = .ok (.iload 4, 2) := by decide +kernel
theorem dX12_findBest_211 : decode cX12_findBest 211 = .ok (.iaload, 1) := by decide +kernel
theorem dX12_findBest_212 : decode cX12_findBest 212 = .ok (.iastore, 1) := by decide +kernel
theorem dX12_findBest_213 : decode cX12_findBest 213 = .ok (.aload_n 0, 1) := by decide +kernel
theorem dX12_findBest_214 : decode cX12_findBest 214 = .ok (.getfield 83, 3) := by decide +kernel
theorem dX12_findBest_217 : decode cX12_findBest 217 = .ok (.iload 4, 2) := by decide +kernel
theorem dX12_findBest_219 : decode cX12_findBest 219 = .ok (.iconst 1, 1) := by decide +kernel
theorem dX12_findBest_220 : decode cX12_findBest 220 = .ok (.iastore, 1) := by decide +kernel
theorem dX12_findBest_221 : decode cX12_findBest 221 = .ok (.iinc 2 1, 3) := by decide +kernel
theorem dX12_findBest_224 : decode cX12_findBest 224 = .ok (.iconst 0, 1) := by decide +kernel
theorem dX12_findBest_225 : decode cX12_findBest 225 = .ok (.istore_n 3, 1) := by decide +kernel
theorem dX12_findBest_226 : decode cX12_findBest 226 = .ok (.aload_n 0, 1) := by decide +kernel
theorem dX12_findBest_227 : decode cX12_findBest 227 = .ok (.getfield 95, 3) := by decide +kernel
theorem dX12_findBest_230 : decode cX12_findBest 230 = .ok (.iload_n 2, 1) := by decide +kernel
theorem dX12_findBest_231 : decode cX12_findBest 231 = .ok (.iaload, 1) := by decide +kernel
theorem dX12_findBest_232 : decode cX12_findBest 232 = .ok (.aload_n 0, 1) := by decide +kernel
theorem dX12_findBest_233 : decode cX12_findBest 233 = .ok (.getfield 264, 3) := by decide +kernel
theorem dX12_findBest_236 : decode cX12_findBest 236 = .ok (.if_icmp .gt 6, 3) := by decide +kernel
theorem dX12_findBest_239 : decode cX12_findBest 239 = .ok (.goto (-193), 3) := by decide +kernel
theorem dX12_findBest_242 : decode cX12_findBest 242 = .ok (.aload_n 0, 1) := by decide +kernel
theorem dX12_findBest_243 : decode cX12_findBest 243 = .ok (.aload_n 0, 1) := by decide +kernel
theorem dX12_findBest_244 : decode cX12_findBest 244 = .ok (.getfield 95, 3) := by decide +kernel
theorem dX12_findBest_247 : decode cX12_findBest 247 = .ok (.iload_n 2, 1) := by decide +kernel
theorem dX12_findBest_248 : decode cX12_findBest 248 = .ok (.iaload, 1) := by decide +kernel
theorem dX12_findBest_249 : decode cX12_findBest 249 = .ok (.putfield 264, 3) := by decide +kernel
theorem dX12_findBest_252 : decode cX12_findBest 252 = .ok (.aload_n 0, 1) := by decide +kernel
theorem dX12_findBest_253 : decode cX12_findBest 253 = .ok (.iload_n 2, 1) := by decide +kernel
theorem dX12_findBest_254 : decode cX12_findBest 254 = .ok (.putfield 261, 3) := by decide +kernel
theorem dX12_findBest_257 : decode cX12_findBest 257 = .ok (.iconst 0, 1) := by decide +kernel
theorem dX12_findBest_258 : decode cX12_findBest 258 = .ok (.istore 6, 2) := by decide +kernel
theorem dX12_findBest_260 : decode cX12_findBest 260 = .ok (.iload 6, 2) := by decide +kernel
theorem dX12_findBest_262 : decode cX12_findBest 262 = .ok (.iload_n 2, 1) := by decide +kernel
theorem dX12_findBest_263 : decode cX12_findBest 263 = .ok (.if_icmp .ge 23, 3) := by decide +kernel
theorem dX12_findBest_266 : decode cX12_findBest 266 = .ok (.aload_n 0, 1) := by decide +kernel
theorem dX12_findBest_267 : decode cX12_findBest 267 = .ok (.getfield 89, 3) := by decide +kernel
theorem dX12_findBest_270 : decode cX12_findBest 270 = .ok (.iload 6, 2) := by decide +kernel
theorem dX12_findBest_272 : decode cX12_findBest 272 = .ok (.aload_n 0, 1) := by decide +kernel
theorem dX12_findBest_273 : decode cX12_findBest 273 = .ok (.getfield 86, 3) := by decide +kernel
theorem dX12_findBest_276 : decode cX12_findBest 276 = .ok (.iload 6, 2) := by decide +kernel
theorem dX12_findBest_278 : decode cX12_findBest 278 = .ok (.iaload, 1) := by decide +kernel
theorem dX12_findBest_279 : decode cX12_findBest 279 = .ok (.iastore, 1) := by decide +kernel
theorem dX12_findBest_280 : decode cX12_findBest 280 = .ok (.iinc 6 1, 3) := by decide +kernel
theorem dX12_findBest_283 : decode cX12_findBest 283 = .ok (.goto (-23), 3) := by decide +kernel
theorem dX12_findBest_286 : decode cX12_findBest 286 = .ok (.goto (-240), 3) := by decide +kernel
theorem dX12_findBest_289 : decode cX12_findBest 289 = .ok (.aload_n 0, 1) := by decide +kernel
theorem dX12_findBest_290 : decode cX12_findBest 290 = .ok (.iconst 1, 1) := by decide +kernel
theorem dX12_findBest_291 : decode cX12_findBest 291 = .ok (.iconst 0, 1) := by decide +kernel
theorem dX12_findBest_292 : decode cX12_findBest 292 = .ok (.invokevirtual 188, 3) := by decide +kernel
theorem dX12_findBest_295 : decode cX12_findBest 295 = .ok (.return_, 1) := by decide +kernel
theorem dX12_best_0 : decode cX12_best 0 = .ok (.iload_n 1, 1) := by decide +kernel
theorem dX12_best_1 : decode cX12_best 1 = .ok (.iconst (-1), 1) := by decide +kernel
theorem dX12_best_2 : decode cX12_best 2 = .ok (.if_icmp .ge 10, 3) := by decide +kernel
theorem dX12_best_5 : decode cX12_best 5 = .ok (.aload_n 0, 1) := by decide +kernel
theorem dX12_best_6 : decode cX12_best 6 = .ok (.bipush (-4), 2) := by decide +kernel
theorem dX12_best_8 : decode cX12_best 8 = .ok (.invokevirtual 127, 3) := by decide +kernel
theorem dX12_best_11 : decode cX12_best 11 = .ok (.ireturn, 1) := by decide +kernel
theorem dX12_best_12 : decode cX12_best 12 = .ok (.aload_n 0, 1) := by decide +kernel
theorem dX12_best_13 : decode cX12_best 13 = .ok (.invokevirtual 215, 3) := by decide +kernel
theorem dX12_best_16 : decode cX12_best 16 = .ok (.aload_n 0, 1) := by decide +kernel
theorem dX12_best_17 : decode cX12_best 17 = .ok (.aload_n 0, 1) := by decide +kernel
theorem dX12_best_18 : decode cX12_best 18 = .ok (.getfield 34, 3) := by decide +kernel
theorem dX12_best_21 : decode cX12_best 21 = .ok (.iconst 3, 1) := by decide +kernel
theorem dX12_best_22 : decode cX12_best 22 = .ok (.iaload, 1) := by decide +kernel
theorem dX12_best_23 : decode cX12_best 23 = .ok (.invokevirtual 267, 3) := by decide +kernel
theorem dX12_best_26 : decode cX12_best 26 = .ok (.iload_n 1, 1) := by decide +kernel
theorem dX12_best_27 : decode cX12_best 27 = .ok (.iconst (-1), 1) := by decide +kernel
theorem dX12_best_28 : decode cX12_best 28 = .ok (.if_icmp .ne 10, 3) := by decide +kernel
theorem dX12_best_31 : decode cX12_best 31 = .ok (.aload_n 0, 1) := by decide +kernel
theorem dX12_best_32 : decode cX12_best 32 = .ok (.getfield 264, 3) := by decide +kernel
theorem dX12_best_35 : decode cX12_best 35 = .ok (.goto 22, 3) := by decide +kernel
theorem dX12_best_38 : decode cX12_best 38 = .ok (.iload_n 1, 1) := by decide +kernel
theorem dX12_best_39 : decode cX12_best 39 = .ok (.aload_n 0, 1) := by decide +kernel
theorem dX12_best_40 : decode cX12_best 40 = .ok (.getfield 261, 3) := by decide +kernel
theorem dX12_best_43 : decode cX12_best 43 = .ok (.if_icmp .ge 12, 3) := by decide +kernel
theorem dX12_best_46 : decode cX12_best 46 = .ok (.aload_n 0, 1) := by decide +kernel
theorem dX12_best_47 : decode cX12_best 47 = .ok (.getfield 89, 3) := by decide +kernel
theorem dX12_best_50 : decode cX12_best 50 = .ok (.iload_n 1, 1) := by decide +kernel
theorem dX12_best_51 : decode cX12_best 51 = .ok (.iaload, 1) := by decide +kernel
theorem dX12_best_52 : decode cX12_best 52 = .ok (.goto 5, 3) := by decide +kernel
theorem dX12_best_55 : decode cX12_best 55 = .ok (.bipush (-9), 2) := by decide +kernel
theorem dX12_best_57 : decode cX12_best 57 = .ok (.ireturn, 1) := by decide +kernel
theorem dX12_house_0 : decode cX12_house 0 = .ok (.aload_n 0, 1) := by decide +kernel
theorem dX12_house_1 : decode cX12_house 1 = .ok (.invokevirtual 215, 3) := by decide +kernel
theorem dX12_house_4 : decode cX12_house 4 = .ok (.iconst 0, 1) := by decide +kernel
theorem dX12_house_5 : decode cX12_house 5 = .ok (.istore_n 1, 1) := by decide +kernel
theorem dX12_house_6 : decode cX12_house 6 = .ok (.iconst (-1), 1) := by decide +kernel
theorem dX12_house_7 : decode cX12_house 7 = .ok (.istore_n 2, 1) := by decide +kernel
theorem dX12_house_8 : decode cX12_house 8 = .ok (.iconst 0, 1) := by decide +kernel
theorem dX12_house_9 : decode cX12_house 9 = .ok (.istore_n 3, 1) := by decide +kernel
theorem dX12_house_10 : decode cX12_house 10 = .ok (.iload_n 3, 1) := by decide +kernel
theorem dX12_house_11 : decode cX12_house 11 = .ok (.aload_n 0, 1) := by decide +kernel
theorem dX12_house_12 : decode cX12_house 12 = .ok (.getfield 52, 3) := by decide +kernel
theorem dX12_house_15 : decode cX12_house 15 = .ok (.if_icmp .ge 32, 3) := by decide +kernel
theorem dX12_house_18 : decode cX12_house 18 = .ok (.aload_n 0, 1) := by decide +kernel
theorem dX12_house_19 : decode cX12_house 19 = .ok (.iload_n 3, 1) := by decide +kernel
theorem dX12_house_20 : decode cX12_house 20 = .ok (.invokevirtual 267, 3) := by decide +kernel
theorem dX12_house_23 : decode cX12_house 23 = .ok (.aload_n 0, 1) := by decide +kernel
theorem dX12_house_24 : decode cX12_house 24 = .ok (.getfield 264, 3) := by decide +kernel
theorem dX12_house_27 : decode cX12_house 27 = .ok (.iload_n 2, 1) := by decide +kernel
theorem dX12_house_28 : decode cX12_house 28 = .ok (.if_icmp .gt 6, 3) := by decide +kernel
theorem dX12_house_31 : decode cX12_house 31 = .ok (.goto 10, 3) := by decide +kernel
theorem dX12_house_34 : decode cX12_house 34 = .ok (.aload_n 0, 1) := by decide +kernel
theorem dX12_house_35 : decode cX12_house 35 = .ok (.getfield 264, 3) := by decide +kernel
theorem dX12_house_38 : decode cX12_house 38 = .ok (.istore_n 2, 1) := by decide +kernel
theorem dX12_house_39 : decode cX12_house 39 = .ok (.iload_n 3, 1) := by decide +kernel
theorem dX12_house_40 : decode cX12_house 40 = .ok (.istore_n 1, 1) := by decide +kernel
theorem dX12_house_41 : decode cX12_house 41 = .ok (.iinc 3 1, 3) := by decide +kernel
theorem dX12_house_44 : decode cX12_house 44 = .ok (.goto (-34), 3) := by decide +kernel
theorem dX12_house_47 : decode cX12_house 47 = .ok (.iload_n 1, 1) := by decide +kernel
theorem dX12_house_48 : decode cX12_house 48 = .ok (.ireturn, 1) := by decide +kernel
theorem dX12_call_0 : decode cX12_call 0 = .ok (.aload_n 0, 1) := by decide +kernel
theorem dX12_call_1 : decode cX12_call 1 = .ok (.iload_n 1, 1) := by decide +kernel
theorem dX12_call_2 : decode cX12_call 2 = .ok (.invokevirtual 172, 3) := by decide +kernel
theorem dX12_call_5 : decode cX12_call 5 = .ok (.ifCond .ne 9, 3) := by decide +kernel
theorem dX12_call_8 : decode cX12_call 8 = .ok (.aload_n 0, 1) := by decide +kernel
theorem dX12_call_9 : decode cX12_call 9 = .ok (.iconst (-1), 1) := by decide +kernel
theorem dX12_call_10 : decode cX12_call 10 = .ok (.invokevirtual 127, 3) := by decide +kernel
theorem dX12_call_13 : decode cX12_call 13 = .ok (.ireturn, 1) := by decide +kernel
theorem dX12_call_14 : decode cX12_call 14 = .ok (.iload_n 2, 1) := by decide +kernel
theorem dX12_call_15 : decode cX12_call 15 = .ok (.ifCond .lt 7, 3) := by decide +kernel
theorem dX12_call_18 : decode cX12_call 18 = .ok (.iload_n 3, 1) := by decide +kernel
theorem dX12_call_19 : decode cX12_call 19 = .ok (.ifCond .ge 8, 3) := by decide +kernel
theorem dX12_call_22 : decode cX12_call 22 = .ok (.bipush (-4), 2) := by decide +kernel
theorem dX12_call_24 : decode cX12_call 24 = .ok (.goto 21, 3) := by decide +kernel
theorem dX12_call_27 : decode cX12_call 27 = .ok (.iload_n 2, 1) := by decide +kernel
theorem dX12_call_28 : decode cX12_call 28 = .ok (.bipush 9, 2) := by decide +kernel
theorem dX12_call_30 : decode cX12_call 30 = .ok (.if_icmp .gt 9, 3) := by decide +kernel
theorem dX12_call_33 : decode cX12_call 33 = .ok (.iload_n 3, 1) := by decide +kernel
theorem dX12_call_34 : decode cX12_call 34 = .ok (.bipush 99, 2) := by decide +kernel
theorem dX12_call_36 : decode cX12_call 36 = .ok (.if_icmp .le 8, 3) := by decide +kernel
theorem dX12_call_39 : decode cX12_call 39 = .ok (.bipush (-6), 2) := by decide +kernel
theorem dX12_call_41 : decode cX12_call 41 = .ok (.goto 4, 3) := by decide +kernel
theorem dX12_call_44 : decode cX12_call 44 = .ok (.iconst 0, 1) := by decide +kernel
theorem dX12_call_45 : decode cX12_call 45 = .ok (.istore 4, 2) := by decide +kernel
theorem dX12_call_47 : decode cX12_call 47 = .ok (.iload 4, 2) := by decide +kernel
theorem dX12_call_49 : decode cX12_call 49 = .ok (.ifCond .eq 10, 3) := by decide +kernel
theorem dX12_call_52 : decode cX12_call 52 = .ok (.aload_n 0, 1) := by decide +kernel
theorem dX12_call_53 : decode cX12_call 53 = .ok (.iload 4, 2) := by decide +kernel
theorem dX12_call_55 : decode cX12_call 55 = .ok (.invokevirtual 127, 3) := by decide +kernel
theorem dX12_call_58 : decode cX12_call 58 = .ok (.ireturn, 1) := by decide +kernel
theorem dX12_call_59 : decode cX12_call 59 = .ok (.aload_n 0, 1) := by decide +kernel
theorem dX12_call_60 : decode cX12_call 60 = .ok (.getfield 37, 3) := by decide +kernel
theorem dX12_call_63 : decode cX12_call 63 = .ok (.iload_n 1, 1) := by decide +kernel
theorem dX12_call_64 : decode cX12_call 64 = .ok (.iaload, 1) := by decide +kernel
theorem dX12_call_65 : decode cX12_call 65 = .ok (.istore 5, 2) := by decide +kernel
theorem dX12_call_67 : decode cX12_call 67 = .ok (.aload_n 0, 1) := by decide +kernel
theorem dX12_call_68 : decode cX12_call 68 = .ok (.getfield 37, 3) := by decide +kernel
theorem dX12_call_71 : decode cX12_call 71 = .ok (.iload_n 1, 1) := by decide +kernel
theorem dX12_call_72 : decode cX12_call 72 = .ok (.iload_n 2, 1) := by decide +kernel
theorem dX12_call_73 : decode cX12_call 73 = .ok (.iastore, 1) := by decide +kernel
theorem dX12_call_74 : decode cX12_call 74 = .ok (.aload_n 0, 1) := by decide +kernel
theorem dX12_call_75 : decode cX12_call 75 = .ok (.getfield 40, 3) := by decide +kernel
theorem dX12_call_78 : decode cX12_call 78 = .ok (.iload_n 1, 1) := by decide +kernel
theorem dX12_call_79 : decode cX12_call 79 = .ok (.iload_n 3, 1) := by decide +kernel
theorem dX12_call_80 : decode cX12_call 80 = .ok (.iastore, 1) := by decide +kernel
theorem dX12_call_81 : decode cX12_call 81 = .ok (.iload 5, 2) := by decide +kernel
theorem dX12_call_83 : decode cX12_call 83 = .ok (.ireturn, 1) := by decide +kernel
theorem dX12_allWeights_0 : decode cX12_allWeights 0 = .ok (.iconst 0, 1) := by decide +kernel
theorem dX12_allWeights_1 : decode cX12_allWeights 1 = .ok (.istore_n 1, 1) := by decide +kernel
theorem dX12_allWeights_2 : decode cX12_allWeights 2 = .ok (.iconst 0, 1) := by decide +kernel
theorem dX12_allWeights_3 : decode cX12_allWeights 3 = .ok (.istore_n 2, 1) := by decide +kernel
theorem dX12_allWeights_4 : decode cX12_allWeights 4 = .ok (.iload_n 2, 1) := by decide +kernel
theorem dX12_allWeights_5 : decode cX12_allWeights 5 = .ok (.bipush 8, 2) := by decide +kernel
theorem dX12_allWeights_7 : decode cX12_allWeights 7 = .ok (.if_icmp .ge 18, 3) := by decide +kernel
theorem dX12_allWeights_10 : decode cX12_allWeights 10 = .ok (.iload_n 1, 1) := by decide +kernel
theorem dX12_allWeights_11 : decode cX12_allWeights 11 = .ok (.aload_n 0, 1) := by decide +kernel
theorem dX12_allWeights_12 : decode cX12_allWeights 12 = .ok (.getfield 37, 3) := by decide +kernel
theorem dX12_allWeights_15 : decode cX12_allWeights 15 = .ok (.iload_n 2, 1) := by decide +kernel
theorem dX12_allWeights_16 : decode cX12_allWeights 16 = .ok (.iaload, 1) := by decide +kernel
theorem dX12_allWeights_17 : decode cX12_allWeights 17 = .ok (.iadd, 1) := by decide +kernel
theorem dX12_allWeights_18 : decode cX12_allWeights 18 = .ok (.istore_n 1, 1) := by decide +kernel
theorem dX12_allWeights_19 : decode cX12_allWeights 19 = .ok (.iinc 2 1, 3) := by decide +kernel
theorem dX12_allWeights_22 : decode cX12_allWeights 22 = .ok (.goto (-18), 3) := by decide +kernel
theorem dX12_allWeights_25 : decode cX12_allWeights 25 = .ok (.iload_n 1, 1) := by decide +kernel
theorem dX12_allWeights_26 : decode cX12_allWeights 26 = .ok (.ireturn, 1) := by decide +kernel
theorem dX12_findMeans_0 : decode cX12_findMeans 0 = .ok (.lconst 1, 1) := by decide +kernel
theorem dX12_findMeans_1 : decode cX12_findMeans 1 = .ok (.lstore_n 3, 1) := by decide +kernel
theorem dX12_findMeans_2 : decode cX12_findMeans 2 = .ok (.aload_n 0, 1) := by decide +kernel
theorem dX12_findMeans_3 : decode cX12_findMeans 3 = .ok (.invokevirtual 270, 3) := by decide +kernel
theorem dX12_findMeans_6 : decode cX12_findMeans 6 = .ok (.istore 5, 2) := by decide +kernel
theorem dX12_findMeans_8 : decode cX12_findMeans 8 = .ok (.iconst 0, 1) := by decide +kernel
theorem dX12_findMeans_9 : decode cX12_findMeans 9 = .ok (.istore 6, 2) := by decide +kernel
theorem dX12_findMeans_11 : decode cX12_findMeans 11 = .ok (.iload 6, 2) := by decide +kernel
theorem dX12_findMeans_13 : decode cX12_findMeans 13 = .ok (.iload_n 1, 1) := by decide +kernel
theorem dX12_findMeans_14 : decode cX12_findMeans 14 = .ok (.if_icmp .gt 17, 3) := by decide +kernel
theorem dX12_findMeans_17 : decode cX12_findMeans 17 = .ok (.aload_n 0, 1) := by decide +kernel
theorem dX12_findMeans_18 : decode cX12_findMeans 18 = .ok (.getfield 101, 3) := by decide +kernel
theorem dX12_findMeans_21 : decode cX12_findMeans 21 = .ok (.iload 6, 2) := by decide +kernel
theorem dX12_findMeans_23 : decode cX12_findMeans 23 = .ok (.lconst 0, 1) := by decide +kernel
theorem dX12_findMeans_24 : decode cX12_findMeans 24 = .ok (.lastore, 1) := by decide +kernel
theorem dX12_findMeans_25 : decode cX12_findMeans 25 = .ok (.iinc 6 1, 3) := by decide +kernel
theorem dX12_findMeans_28 : decode cX12_findMeans 28 = .ok (.goto (-17), 3) := by decide +kernel
theorem dX12_findMeans_31 : decode cX12_findMeans 31 = .ok (.iconst 1, 1) := by decide +kernel
theorem dX12_findMeans_32 : decode cX12_findMeans 32 = .ok (.istore 6, 2) := by decide +kernel
theorem dX12_findMeans_34 : decode cX12_findMeans 34 = .ok (.iload 6, 2) := by decide +kernel
theorem dX12_findMeans_36 : decode cX12_findMeans 36 = .ok (.iload_n 2, 1) := by decide +kernel
theorem dX12_findMeans_37 : decode cX12_findMeans 37 = .ok (.if_icmp .gt 174, 3) := by decide +kernel
theorem dX12_findMeans_40 : decode cX12_findMeans 40 = .ok (.iconst 0, 1) := by decide +kernel
theorem dX12_findMeans_41 : decode cX12_findMeans 41 = .ok (.istore 7, 2) := by decide +kernel
theorem dX12_findMeans_43 : decode cX12_findMeans 43 = .ok (.iload 7, 2) := by decide +kernel
theorem dX12_findMeans_45 : decode cX12_findMeans 45 = .ok (.iload_n 1, 1) := by decide +kernel
theorem dX12_findMeans_46 : decode cX12_findMeans 46 = .ok (.if_icmp .gt 153, 3) := by decide +kernel
theorem dX12_findMeans_49 : decode cX12_findMeans 49 = .ok (.lconst 0, 1) := by decide +kernel
theorem dX12_findMeans_50 : decode cX12_findMeans 50 = .ok (.lstore 8, 2) := by decide +kernel
theorem dX12_findMeans_52 : decode cX12_findMeans 52 = .ok (.iconst 0, 1) := by decide +kernel
theorem dX12_findMeans_53 : decode cX12_findMeans 53 = .ok (.istore 10, 2) := by decide +kernel
theorem dX12_findMeans_55 : decode cX12_findMeans 55 = .ok (.iload 10, 2) := by decide +kernel
theorem dX12_findMeans_57 : decode cX12_findMeans 57 = .ok (.aload_n 0, 1) := by decide +kernel
theorem dX12_findMeans_58 : decode cX12_findMeans 58 = .ok (.getfield 52, 3) := by decide +kernel
theorem dX12_findMeans_61 : decode cX12_findMeans 61 = .ok (.if_icmp .ge 116, 3) := by decide +kernel
theorem dX12_findMeans_64 : decode cX12_findMeans 64 = .ok (.iconst 2, 1) := by decide +kernel
theorem dX12_findMeans_65 : decode cX12_findMeans 65 = .ok (.aload_n 0, 1) := by decide +kernel
theorem dX12_findMeans_66 : decode cX12_findMeans 66 = .ok (.aload_n 0, 1) := by decide +kernel
theorem dX12_findMeans_67 : decode cX12_findMeans 67 = .ok (.getfield 34, 3) := by decide +kernel
theorem dX12_findMeans_70 : decode cX12_findMeans 70 = .ok (.iconst 3, 1) := by decide +kernel
theorem dX12_findMeans_71 : decode cX12_findMeans 71 = .ok (.iaload, 1) := by decide +kernel
theorem dX12_findMeans_72 : decode cX12_findMeans 72 = .ok (.iload 10, 2) := by decide +kernel
theorem dX12_findMeans_74 : decode cX12_findMeans 74 = .ok (.invokevirtual 218, 3) := by decide +kernel
theorem dX12_findMeans_77 : decode cX12_findMeans 77 = .ok (.imul, 1) := by decide +kernel
theorem dX12_findMeans_78 : decode cX12_findMeans 78 = .ok (.istore 11, 2) := by decide +kernel
theorem dX12_findMeans_80 : decode cX12_findMeans 80 = .ok (.aload_n 0, 1) := by decide +kernel
theorem dX12_findMeans_81 : decode cX12_findMeans 81 = .ok (.getfield 101, 3) := by decide +kernel
theorem dX12_findMeans_84 : decode cX12_findMeans 84 = .ok (.sipush 1000, 3) := by decide +kernel
theorem dX12_findMeans_87 : decode cX12_findMeans 87 = .ok (.iload 6, 2) := by decide +kernel
theorem dX12_findMeans_89 : decode cX12_findMeans 89 = .ok (.iconst 1, 1) := by decide +kernel
theorem dX12_findMeans_90 : decode cX12_findMeans 90 = .ok (.isub, 1) := by decide +kernel
theorem dX12_findMeans_91 : decode cX12_findMeans 91 = .ok (.imul, 1) := by decide +kernel
theorem dX12_findMeans_92 : decode cX12_findMeans 92 = .ok (.iload 7, 2) := by decide +kernel
theorem dX12_findMeans_94 : decode cX12_findMeans 94 = .ok (.iadd, 1) := by decide +kernel
theorem dX12_findMeans_95 : decode cX12_findMeans 95 = .ok (.laload, 1) := by decide +kernel
theorem dX12_findMeans_96 : decode cX12_findMeans 96 = .ok (.lstore 12, 2) := by decide +kernel
theorem dX12_findMeans_98 : decode cX12_findMeans 98 = .ok (.iload 11, 2) := by decide +kernel
theorem dX12_findMeans_100 : decode cX12_findMeans 100 = .ok (.iload 7, 2) := by decide +kernel
theorem dX12_findMeans_102 : decode cX12_findMeans 102 = .ok (.if_icmp .le 8, 3) := by decide +kernel
theorem dX12_findMeans_105 : decode cX12_findMeans 105 = .ok (.lload 12, 2) := by decide +kernel
theorem dX12_findMeans_107 : decode cX12_findMeans 107 = .ok (.goto 33, 3) := by decide +kernel
theorem dX12_findMeans_110 : decode cX12_findMeans 110 = .ok (.aload_n 0, 1) := by decide +kernel
theorem dX12_findMeans_111 : decode cX12_findMeans 111 = .ok (.getfield 40, 3) := by decide +kernel
theorem dX12_findMeans_114 : decode cX12_findMeans 114 = .ok (.iload 10, 2) := by decide +kernel
theorem dX12_findMeans_116 : decode cX12_findMeans 116 = .ok (.iaload, 1) := by decide +kernel
theorem dX12_findMeans_117 : decode cX12_findMeans 117 = .ok (.i2l, 1) := by decide +kernel
theorem dX12_findMeans_118 : decode cX12_findMeans 118 = .ok (.lload_n 3, 1) := by decide +kernel
theorem dX12_findMeans_119 : decode cX12_findMeans 119 = .ok (.lmul, 1) := by decide +kernel
theorem dX12_findMeans_120 : decode cX12_findMeans 120 = .ok (.aload_n 0, 1) := by decide +kernel
theorem dX12_findMeans_121 : decode cX12_findMeans 121 = .ok (.getfield 101, 3) := by decide +kernel
theorem dX12_findMeans_124 : decode cX12_findMeans 124 = .ok (.sipush 1000, 3) := by decide +kernel
theorem dX12_findMeans_127 : decode cX12_findMeans 127 = .ok (.iload 6, 2) := by decide +kernel
theorem dX12_findMeans_129 : decode cX12_findMeans 129 = .ok (.iconst 1, 1) := by decide +kernel
theorem dX12_findMeans_130 : decode cX12_findMeans 130 = .ok (.isub, 1) := by decide +kernel
theorem dX12_findMeans_131 : decode cX12_findMeans 131 = .ok (.imul, 1) := by decide +kernel
theorem dX12_findMeans_132 : decode cX12_findMeans 132 = .ok (.iload 7, 2) := by decide +kernel
theorem dX12_findMeans_134 : decode cX12_findMeans 134 = .ok (.iadd, 1) := by decide +kernel
theorem dX12_findMeans_135 : decode cX12_findMeans 135 = .ok (.iload 11, 2) := by decide +kernel
theorem dX12_findMeans_137 : decode cX12_findMeans 137 = .ok (.isub, 1) := by decide +kernel
theorem dX12_findMeans_138 : decode cX12_findMeans 138 = .ok (.laload, 1) := by decide +kernel
theorem dX12_findMeans_139 : decode cX12_findMeans 139 = .ok (.ladd, 1) := by decide +kernel
theorem dX12_findMeans_140 : decode cX12_findMeans 140 = .ok (.lstore 14, 2) := by decide +kernel
theorem dX12_findMeans_142 : decode cX12_findMeans 142 = .ok (.lload 8, 2) := by decide +kernel
theorem dX12_findMeans_144 : decode cX12_findMeans 144 = .ok (.aload_n 0, 1) := by decide +kernel
theorem dX12_findMeans_145 : decode cX12_findMeans 145 = .ok (.getfield 37, 3) := by decide +kernel
theorem dX12_findMeans_148 : decode cX12_findMeans 148 = .ok (.iload 10, 2) := by decide +kernel
theorem dX12_findMeans_150 : decode cX12_findMeans 150 = .ok (.iaload, 1) := by decide +kernel
theorem dX12_findMeans_151 : decode cX12_findMeans 151 = .ok (.i2l, 1) := by decide +kernel
theorem dX12_findMeans_152 : decode cX12_findMeans 152 = .ok (.lload 14, 2) := by decide +kernel
theorem dX12_findMeans_154 : decode cX12_findMeans 154 = .ok (.lload 12, 2) := by decide +kernel
theorem dX12_findMeans_156 : decode cX12_findMeans 156 = .ok (.lcmp, 1) := by decide +kernel
theorem dX12_findMeans_157 : decode cX12_findMeans 157 = .ok (.ifCond .le 8, 3) := by decide +kernel
theorem dX12_findMeans_160 : decode cX12_findMeans 160 = .ok (.lload 14, 2) := by decide +kernel
theorem dX12_findMeans_162 : decode cX12_findMeans 162 = .ok (.goto 5, 3) := by decide +kernel
theorem dX12_findMeans_165 : decode cX12_findMeans 165 = .ok (.lload 12, 2) := by decide +kernel
theorem dX12_findMeans_167 : decode cX12_findMeans 167 = .ok (.lmul, 1) := by decide +kernel
theorem dX12_findMeans_168 : decode cX12_findMeans 168 = .ok (.ladd, 1) := by decide +kernel
theorem dX12_findMeans_169 : decode cX12_findMeans 169 = .ok (.lstore 8, 2) := by decide +kernel
theorem dX12_findMeans_171 : decode cX12_findMeans 171 = .ok (.iinc 10 1, 3) := by decide +kernel
theorem dX12_findMeans_174 : decode cX12_findMeans 174 = .ok (.goto (-119), 3) := by decide +kernel
theorem dX12_findMeans_177 : decode cX12_findMeans 177 = .ok (.aload_n 0, 1) := by decide +kernel
theorem dX12_findMeans_178 : decode cX12_findMeans 178 = .ok (.getfield 101, 3) := by decide +kernel
theorem dX12_findMeans_181 : decode cX12_findMeans 181 = .ok (.sipush 1000, 3) := by decide +kernel
theorem dX12_findMeans_184 : decode cX12_findMeans 184 = .ok (.iload 6, 2) := by decide +kernel
theorem dX12_findMeans_186 : decode cX12_findMeans 186 = .ok (.imul, 1) := by decide +kernel
theorem dX12_findMeans_187 : decode cX12_findMeans 187 = .ok (.iload 7, 2) := by decide +kernel
theorem dX12_findMeans_189 : decode cX12_findMeans 189 = .ok (.iadd, 1) := by decide +kernel
theorem dX12_findMeans_190 : decode cX12_findMeans 190 = .ok (.lload 8, 2) := by decide +kernel
theorem dX12_findMeans_192 : decode cX12_findMeans 192 = .ok (.lastore, 1) := by decide +kernel
theorem dX12_findMeans_193 : decode cX12_findMeans 193 = .ok (.iinc 7 1, 3) := by decide +kernel
theorem dX12_findMeans_196 : decode cX12_findMeans 196 = .ok (.goto (-153), 3) := by decide +kernel
theorem dX12_findMeans_199 : decode cX12_findMeans 199 = .ok (.lload_n 3, 1) := by decide +kernel
theorem dX12_findMeans_200 : decode cX12_findMeans 200 = .ok (.iload 5, 2) := by decide +kernel
theorem dX12_findMeans_202 : decode cX12_findMeans 202 = .ok (.i2l, 1) := by decide +kernel
theorem dX12_findMeans_203 : decode cX12_findMeans 203 = .ok (.lmul, 1) := by decide +kernel
theorem dX12_findMeans_204 : decode cX12_findMeans 204 = .ok (.lstore_n 3, 1) := by decide +kernel
theorem dX12_findMeans_205 : decode cX12_findMeans 205 = .ok (.iinc 6 1, 3) := by decide +kernel
theorem dX12_findMeans_208 : decode cX12_findMeans 208 = .ok (.goto (-174), 3) := by decide +kernel
theorem dX12_findMeans_211 : decode cX12_findMeans 211 = .ok (.lload_n 3, 1) := by decide +kernel
theorem dX12_findMeans_212 : decode cX12_findMeans 212 = .ok (.lreturn, 1) := by decide +kernel
theorem dX12_divisor_0 : decode cX12_divisor 0 = .ok (.lload_n 0, 1) := by decide +kernel
theorem dX12_divisor_1 : decode cX12_divisor 1 = .ok (.lstore 4, 2) := by decide +kernel
theorem dX12_divisor_3 : decode cX12_divisor 3 = .ok (.lload_n 2, 1) := by decide +kernel
theorem dX12_divisor_4 : decode cX12_divisor 4 = .ok (.lstore 6, 2) := by decide +kernel
theorem dX12_divisor_6 : decode cX12_divisor 6 = .ok (.lload 6, 2) := by decide +kernel
theorem dX12_divisor_8 : decode cX12_divisor 8 = .ok (.lconst 0, 1) := by decide +kernel
theorem dX12_divisor_9 : decode cX12_divisor 9 = .ok (.lcmp, 1) := by decide +kernel
theorem dX12_divisor_10 : decode cX12_divisor 10 = .ok (.ifCond .eq 21, 3) := by decide +kernel
theorem dX12_divisor_13 : decode cX12_divisor 13 = .ok (.lload 4, 2) := by decide +kernel
theorem dX12_divisor_15 : decode cX12_divisor 15 = .ok (.lload 6, 2) := by decide +kernel
theorem dX12_divisor_17 : decode cX12_divisor 17 = .ok (.lrem, 1) := by decide +kernel
theorem dX12_divisor_18 : decode cX12_divisor 18 = .ok (.lstore 8, 2) := by decide +kernel
theorem dX12_divisor_20 : decode cX12_divisor 20 = .ok (.lload 6, 2) := by decide +kernel
theorem dX12_divisor_22 : decode cX12_divisor 22 = .ok (.lstore 4, 2) := by decide +kernel
theorem dX12_divisor_24 : decode cX12_divisor 24 = .ok (.lload 8, 2) := by decide +kernel
theorem dX12_divisor_26 : decode cX12_divisor 26 = .ok (.lstore 6, 2) := by decide +kernel
theorem dX12_divisor_28 : decode cX12_divisor 28 = .ok (.goto (-22), 3) := by decide +kernel
theorem dX12_divisor_31 : decode cX12_divisor 31 = .ok (.lload 4, 2) := by decide +kernel
theorem dX12_divisor_33 : decode cX12_divisor 33 = .ok (.lreturn, 1) := by decide +kernel
theorem dX12_calls_0 : decode cX12_calls 0 = .ok (.iload_n 3, 1) := by decide +kernel
theorem dX12_calls_1 : decode cX12_calls 1 = .ok (.iconst 0, 1) := by decide +kernel
theorem dX12_calls_2 : decode cX12_calls 2 = .ok (.iconst 1, 1) := by decide +kernel
theorem dX12_calls_3 : decode cX12_calls 3 = .ok (.invokestatic 140, 3) := by decide +kernel
theorem dX12_calls_6 : decode cX12_calls 6 = .ok (.ifCond .ne 10, 3) := by decide +kernel
theorem dX12_calls_9 : decode cX12_calls 9 = .ok (.aload_n 0, 1) := by decide +kernel
theorem dX12_calls_10 : decode cX12_calls 10 = .ok (.bipush (-2), 2) := by decide +kernel
theorem dX12_calls_12 : decode cX12_calls 12 = .ok (.invokevirtual 273, 3) := by decide +kernel
theorem dX12_calls_15 : decode cX12_calls 15 = .ok (.lreturn, 1) := by decide +kernel
theorem dX12_calls_16 : decode cX12_calls 16 = .ok (.iload_n 1, 1) := by decide +kernel
theorem dX12_calls_17 : decode cX12_calls 17 = .ok (.ifCond .lt 7, 3) := by decide +kernel
theorem dX12_calls_20 : decode cX12_calls 20 = .ok (.iload_n 2, 1) := by decide +kernel
theorem dX12_calls_21 : decode cX12_calls 21 = .ok (.ifCond .ge 8, 3) := by decide +kernel
theorem dX12_calls_24 : decode cX12_calls 24 = .ok (.bipush (-4), 2) := by decide +kernel
theorem dX12_calls_26 : decode cX12_calls 26 = .ok (.goto 22, 3) := by decide +kernel
theorem dX12_calls_29 : decode cX12_calls 29 = .ok (.iload_n 1, 1) := by decide +kernel
theorem dX12_calls_30 : decode cX12_calls 30 = .ok (.sipush 999, 3) := by decide +kernel
theorem dX12_calls_33 : decode cX12_calls 33 = .ok (.if_icmp .gt 9, 3) := by decide +kernel
theorem dX12_calls_36 : decode cX12_calls 36 = .ok (.iload_n 2, 1) := by decide +kernel
theorem dX12_calls_37 : decode cX12_calls 37 = .ok (.bipush 6, 2) := by decide +kernel
theorem dX12_calls_39 : decode cX12_calls 39 = .ok (.if_icmp .le 8, 3) := by decide +kernel
theorem dX12_calls_42 : decode cX12_calls 42 = .ok (.bipush (-6), 2) := by decide +kernel
theorem dX12_calls_44 : decode cX12_calls 44 = .ok (.goto 4, 3) := by decide +kernel
theorem dX12_calls_47 : decode cX12_calls 47 = .ok (.iconst 0, 1) := by decide +kernel
theorem dX12_calls_48 : decode cX12_calls 48 = .ok (.istore 4, 2) := by decide +kernel
theorem dX12_calls_50 : decode cX12_calls 50 = .ok (.iload 4, 2) := by decide +kernel
theorem dX12_calls_52 : decode cX12_calls 52 = .ok (.ifCond .eq 10, 3) := by decide +kernel
theorem dX12_calls_55 : decode cX12_calls 55 = .ok (.aload_n 0, 1) := by decide +kernel
theorem dX12_calls_56 : decode cX12_calls 56 = .ok (.iload 4, 2) := by decide +kernel
theorem dX12_calls_58 : decode cX12_calls 58 = .ok (.invokevirtual 273, 3) := by decide +kernel
theorem dX12_calls_61 : decode cX12_calls 61 = .ok (.lreturn, 1) := by decide +kernel
theorem dX12_calls_62 : decode cX12_calls 62 = .ok (.aload_n 0, 1) := by decide +kernel
theorem dX12_calls_63 : decode cX12_calls 63 = .ok (.invokevirtual 270, 3) := by decide +kernel
theorem dX12_calls_66 : decode cX12_calls 66 = .ok (.ifCond .ne 6, 3) := by decide +kernel
theorem dX12_calls_69 : decode cX12_calls 69 = .ok (.iload_n 3, 1) := by decide +kernel
theorem dX12_calls_70 : decode cX12_calls 70 = .ok (.i2l, 1) := by decide +kernel
theorem dX12_calls_71 : decode cX12_calls 71 = .ok (.lreturn, 1) := by decide +kernel
theorem dX12_calls_72 : decode cX12_calls 72 = .ok (.aload_n 0, 1) := by decide +kernel
theorem dX12_calls_73 : decode cX12_calls 73 = .ok (.invokevirtual 215, 3) := by decide +kernel
theorem dX12_calls_76 : decode cX12_calls 76 = .ok (.aload_n 0, 1) := by decide +kernel
theorem dX12_calls_77 : decode cX12_calls 77 = .ok (.iload_n 1, 1) := by decide +kernel
theorem dX12_calls_78 : decode cX12_calls 78 = .ok (.iload_n 2, 1) := by decide +kernel
theorem dX12_calls_79 : decode cX12_calls 79 = .ok (.invokevirtual 277, 3) := by decide +kernel
theorem dX12_calls_82 : decode cX12_calls 82 = .ok (.lstore 5, 2) := by decide +kernel
theorem dX12_calls_84 : decode cX12_calls 84 = .ok (.aload_n 0, 1) := by decide +kernel
theorem dX12_calls_85 : decode cX12_calls 85 = .ok (.getfield 101, 3) := by decide +kernel
theorem dX12_calls_88 : decode cX12_calls 88 = .ok (.sipush 1000, 3) := by decide +kernel
theorem dX12_calls_91 : decode cX12_calls 91 = .ok (.iload_n 2, 1) := by decide +kernel
theorem dX12_calls_92 : decode cX12_calls 92 = .ok (.imul, 1) := by decide +kernel
theorem dX12_calls_93 : decode cX12_calls 93 = .ok (.iload_n 1, 1) := by decide +kernel
theorem dX12_calls_94 : decode cX12_calls 94 = .ok (.iadd, 1) := by decide +kernel
theorem dX12_calls_95 : decode cX12_calls 95 = .ok (.laload, 1) := by decide +kernel
theorem dX12_calls_96 : decode cX12_calls 96 = .ok (.lstore 7, 2) := by decide +kernel
theorem dX12_calls_98 : decode cX12_calls 98 = .ok (.iload_n 3, 1) := by decide +kernel
theorem dX12_calls_99 : decode cX12_calls 99 = .ok (.ifCond .ne 8, 3) := by decide +kernel
theorem dX12_calls_102 : decode cX12_calls 102 = .ok (.lload 7, 2) := by decide +kernel
theorem dX12_calls_104 : decode cX12_calls 104 = .ok (.goto 5, 3) := by decide +kernel
theorem dX12_calls_107 : decode cX12_calls 107 = .ok (.lload 5, 2) := by decide +kernel
theorem dX12_calls_109 : decode cX12_calls 109 = .ok (.lload 7, 2) := by decide +kernel
theorem dX12_calls_111 : decode cX12_calls 111 = .ok (.lload 5, 2) := by decide +kernel
theorem dX12_calls_113 : decode cX12_calls 113 = .ok (.invokestatic 281, 3) := by decide +kernel
theorem dX12_calls_116 : decode cX12_calls 116 = .ok (.ldiv, 1) := by decide +kernel
theorem dX12_calls_117 : decode cX12_calls 117 = .ok (.lreturn, 1) := by decide +kernel
theorem dX12_goes_0 : decode cX12_goes 0 = .ok (.aload_n 0, 1) := by decide +kernel
theorem dX12_goes_1 : decode cX12_goes 1 = .ok (.iload_n 3, 1) := by decide +kernel
theorem dX12_goes_2 : decode cX12_goes 2 = .ok (.invokevirtual 172, 3) := by decide +kernel
theorem dX12_goes_5 : decode cX12_goes 5 = .ok (.ifCond .ne 9, 3) := by decide +kernel
theorem dX12_goes_8 : decode cX12_goes 8 = .ok (.aload_n 0, 1) := by decide +kernel
theorem dX12_goes_9 : decode cX12_goes 9 = .ok (.iconst (-1), 1) := by decide +kernel
theorem dX12_goes_10 : decode cX12_goes 10 = .ok (.invokevirtual 127, 3) := by decide +kernel
theorem dX12_goes_13 : decode cX12_goes 13 = .ok (.ireturn, 1) := by decide +kernel
theorem dX12_goes_14 : decode cX12_goes 14 = .ok (.iload_n 1, 1) := by decide +kernel
theorem dX12_goes_15 : decode cX12_goes 15 = .ok (.ifCond .lt 8, 3) := by decide +kernel
theorem dX12_goes_18 : decode cX12_goes 18 = .ok (.iload_n 2, 1) := by decide +kernel
theorem dX12_goes_19 : decode cX12_goes 19 = .ok (.iconst 1, 1) := by decide +kernel
theorem dX12_goes_20 : decode cX12_goes 20 = .ok (.if_icmp .ge 8, 3) := by decide +kernel
theorem dX12_goes_23 : decode cX12_goes 23 = .ok (.bipush (-4), 2) := by decide +kernel
theorem dX12_goes_25 : decode cX12_goes 25 = .ok (.goto 22, 3) := by decide +kernel
theorem dX12_goes_28 : decode cX12_goes 28 = .ok (.iload_n 1, 1) := by decide +kernel
theorem dX12_goes_29 : decode cX12_goes 29 = .ok (.sipush 999, 3) := by decide +kernel
theorem dX12_goes_32 : decode cX12_goes 32 = .ok (.if_icmp .gt 9, 3) := by decide +kernel
theorem dX12_goes_35 : decode cX12_goes 35 = .ok (.iload_n 2, 1) := by decide +kernel
theorem dX12_goes_36 : decode cX12_goes 36 = .ok (.bipush 6, 2) := by decide +kernel
theorem dX12_goes_38 : decode cX12_goes 38 = .ok (.if_icmp .le 8, 3) := by decide +kernel
theorem dX12_goes_41 : decode cX12_goes 41 = .ok (.bipush (-6), 2) := by decide +kernel
theorem dX12_goes_43 : decode cX12_goes 43 = .ok (.goto 4, 3) := by decide +kernel
theorem dX12_goes_46 : decode cX12_goes 46 = .ok (.iconst 0, 1) := by decide +kernel
theorem dX12_goes_47 : decode cX12_goes 47 = .ok (.istore 4, 2) := by decide +kernel
theorem dX12_goes_49 : decode cX12_goes 49 = .ok (.iload 4, 2) := by decide +kernel
theorem dX12_goes_51 : decode cX12_goes 51 = .ok (.ifCond .eq 10, 3) := by decide +kernel
theorem dX12_goes_54 : decode cX12_goes 54 = .ok (.aload_n 0, 1) := by decide +kernel
theorem dX12_goes_55 : decode cX12_goes 55 = .ok (.iload 4, 2) := by decide +kernel
theorem dX12_goes_57 : decode cX12_goes 57 = .ok (.invokevirtual 127, 3) := by decide +kernel
theorem dX12_goes_60 : decode cX12_goes 60 = .ok (.ireturn, 1) := by decide +kernel
theorem dX12_goes_61 : decode cX12_goes 61 = .ok (.aload_n 0, 1) := by decide +kernel
theorem dX12_goes_62 : decode cX12_goes 62 = .ok (.invokevirtual 215, 3) := by decide +kernel
theorem dX12_goes_65 : decode cX12_goes 65 = .ok (.iconst 2, 1) := by decide +kernel
theorem dX12_goes_66 : decode cX12_goes 66 = .ok (.aload_n 0, 1) := by decide +kernel
theorem dX12_goes_67 : decode cX12_goes 67 = .ok (.aload_n 0, 1) := by decide +kernel
theorem dX12_goes_68 : decode cX12_goes 68 = .ok (.getfield 34, 3) := by decide +kernel
theorem dX12_goes_71 : decode cX12_goes 71 = .ok (.iconst 3, 1) := by decide +kernel
theorem dX12_goes_72 : decode cX12_goes 72 = .ok (.iaload, 1) := by decide +kernel
theorem dX12_goes_73 : decode cX12_goes 73 = .ok (.iload_n 3, 1) := by decide +kernel
theorem dX12_goes_74 : decode cX12_goes 74 = .ok (.invokevirtual 218, 3) := by decide +kernel
theorem dX12_goes_77 : decode cX12_goes 77 = .ok (.imul, 1) := by decide +kernel
theorem dX12_goes_78 : decode cX12_goes 78 = .ok (.istore 5, 2) := by decide +kernel
theorem dX12_goes_80 : decode cX12_goes 80 = .ok (.iload 5, 2) := by decide +kernel
theorem dX12_goes_82 : decode cX12_goes 82 = .ok (.iload_n 1, 1) := by decide +kernel
theorem dX12_goes_83 : decode cX12_goes 83 = .ok (.if_icmp .le 5, 3) := by decide +kernel
theorem dX12_goes_86 : decode cX12_goes 86 = .ok (.iconst 0, 1) := by decide +kernel
theorem dX12_goes_87 : decode cX12_goes 87 = .ok (.ireturn, 1) := by decide +kernel
theorem dX12_goes_88 : decode cX12_goes 88 = .ok (.aload_n 0, 1) := by decide +kernel
theorem dX12_goes_89 : decode cX12_goes 89 = .ok (.invokevirtual 270, 3) := by decide +kernel
theorem dX12_goes_92 : decode cX12_goes 92 = .ok (.ifCond .ne 5, 3) := by decide +kernel
theorem dX12_goes_95 : decode cX12_goes 95 = .ok (.iconst 1, 1) := by decide +kernel
theorem dX12_goes_96 : decode cX12_goes 96 = .ok (.ireturn, 1) := by decide +kernel
theorem dX12_goes_97 : decode cX12_goes 97 = .ok (.aload_n 0, 1) := by decide +kernel
theorem dX12_goes_98 : decode cX12_goes 98 = .ok (.iload_n 1, 1) := by decide +kernel
theorem dX12_goes_99 : decode cX12_goes 99 = .ok (.iload_n 2, 1) := by decide +kernel
theorem dX12_goes_100 : decode cX12_goes 100 = .ok (.iconst 1, 1) := by decide +kernel
theorem dX12_goes_101 : decode cX12_goes 101 = .ok (.isub, 1) := by decide +kernel
theorem dX12_goes_102 : decode cX12_goes 102 = .ok (.invokevirtual 277, 3) := by decide +kernel
theorem dX12_goes_105 : decode cX12_goes 105 = .ok (.lstore 6, 2) := by decide +kernel
theorem dX12_goes_107 : decode cX12_goes 107 = .ok (.aload_n 0, 1) := by decide +kernel
theorem dX12_goes_108 : decode cX12_goes 108 = .ok (.getfield 40, 3) := by decide +kernel
theorem dX12_goes_111 : decode cX12_goes 111 = .ok (.iload_n 3, 1) := by decide +kernel
theorem dX12_goes_112 : decode cX12_goes 112 = .ok (.iaload, 1) := by decide +kernel
theorem dX12_goes_113 : decode cX12_goes 113 = .ok (.i2l, 1) := by decide +kernel
theorem dX12_goes_114 : decode cX12_goes 114 = .ok (.lload 6, 2) := by decide +kernel
theorem dX12_goes_116 : decode cX12_goes 116 = .ok (.lmul, 1) := by decide +kernel
theorem dX12_goes_117 : decode cX12_goes 117 = .ok (.aload_n 0, 1) := by decide +kernel
theorem dX12_goes_118 : decode cX12_goes 118 = .ok (.getfield 101, 3) := by decide +kernel
theorem dX12_goes_121 : decode cX12_goes 121 = .ok (.sipush 1000, 3) := by decide +kernel
theorem dX12_goes_124 : decode cX12_goes 124 = .ok (.iload_n 2, 1) := by decide +kernel
theorem dX12_goes_125 : decode cX12_goes 125 = .ok (.iconst 1, 1) := by decide +kernel
theorem dX12_goes_126 : decode cX12_goes 126 = .ok (.isub, 1) := by decide +kernel
theorem dX12_goes_127 : decode cX12_goes 127 = .ok (.imul, 1) := by decide +kernel
theorem dX12_goes_128 : decode cX12_goes 128 = .ok (.iload_n 1, 1) := by decide +kernel
theorem dX12_goes_129 : decode cX12_goes 129 = .ok (.iadd, 1) := by decide +kernel
theorem dX12_goes_130 : decode cX12_goes 130 = .ok (.iload 5, 2) := by decide +kernel
theorem dX12_goes_132 : decode cX12_goes 132 = .ok (.isub, 1) := by decide +kernel
theorem dX12_goes_133 : decode cX12_goes 133 = .ok (.laload, 1) := by decide +kernel
theorem dX12_goes_134 : decode cX12_goes 134 = .ok (.ladd, 1) := by decide +kernel
theorem dX12_goes_135 : decode cX12_goes 135 = .ok (.aload_n 0, 1) := by decide +kernel
theorem dX12_goes_136 : decode cX12_goes 136 = .ok (.getfield 101, 3) := by decide +kernel
theorem dX12_goes_139 : decode cX12_goes 139 = .ok (.sipush 1000, 3) := by decide +kernel
theorem dX12_goes_142 : decode cX12_goes 142 = .ok (.iload_n 2, 1) := by decide +kernel
theorem dX12_goes_143 : decode cX12_goes 143 = .ok (.iconst 1, 1) := by decide +kernel
theorem dX12_goes_144 : decode cX12_goes 144 = .ok (.isub, 1) := by decide +kernel
theorem dX12_goes_145 : decode cX12_goes 145 = .ok (.imul, 1) := by decide +kernel
theorem dX12_goes_146 : decode cX12_goes 146 = .ok (.iload_n 1, 1) := by decide +kernel
theorem dX12_goes_147 : decode cX12_goes 147 = .ok (.iadd, 1) := by decide +kernel
theorem dX12_goes_148 : decode cX12_goes 148 = .ok (.laload, 1) := by decide +kernel
theorem dX12_goes_149 : decode cX12_goes 149 = .ok (.lcmp, 1) := by decide +kernel
theorem dX12_goes_150 : decode cX12_goes 150 = .ok (.ifCond .lt 7, 3) := by decide +kernel
theorem dX12_goes_153 : decode cX12_goes 153 = .ok (.iconst 1, 1) := by decide +kernel
theorem dX12_goes_154 : decode cX12_goes 154 = .ok (.goto 4, 3) := by decide +kernel
theorem dX12_goes_157 : decode cX12_goes 157 = .ok (.iconst 0, 1) := by decide +kernel
theorem dX12_goes_158 : decode cX12_goes 158 = .ok (.ireturn, 1) := by decide +kernel
theorem dX12_together_0 : decode cX12_together 0 = .ok (.iload_n 1, 1) := by decide +kernel
theorem dX12_together_1 : decode cX12_together 1 = .ok (.ifCond .lt 7, 3) := by decide +kernel
theorem dX12_together_4 : decode cX12_together 4 = .ok (.iload_n 2, 1) := by decide +kernel
theorem dX12_together_5 : decode cX12_together 5 = .ok (.ifCond .ge 8, 3) := by decide +kernel
theorem dX12_together_8 : decode cX12_together 8 = .ok (.bipush (-4), 2) := by decide +kernel
theorem dX12_together_10 : decode cX12_together 10 = .ok (.goto 23, 3) := by decide +kernel
theorem dX12_together_13 : decode cX12_together 13 = .ok (.iload_n 1, 1) := by decide +kernel
theorem dX12_together_14 : decode cX12_together 14 = .ok (.sipush 999, 3) := by decide +kernel
theorem dX12_together_17 : decode cX12_together 17 = .ok (.if_icmp .gt 10, 3) := by decide +kernel
theorem dX12_together_20 : decode cX12_together 20 = .ok (.iload_n 2, 1) := by decide +kernel
theorem dX12_together_21 : decode cX12_together 21 = .ok (.sipush 999, 3) := by decide +kernel
theorem dX12_together_24 : decode cX12_together 24 = .ok (.if_icmp .le 8, 3) := by decide +kernel
theorem dX12_together_27 : decode cX12_together 27 = .ok (.bipush (-6), 2) := by decide +kernel
theorem dX12_together_29 : decode cX12_together 29 = .ok (.goto 4, 3) := by decide +kernel
theorem dX12_together_32 : decode cX12_together 32 = .ok (.iconst 0, 1) := by decide +kernel
theorem dX12_together_33 : decode cX12_together 33 = .ok (.istore_n 3, 1) := by decide +kernel
theorem dX12_together_34 : decode cX12_together 34 = .ok (.iload_n 3, 1) := by decide +kernel
theorem dX12_together_35 : decode cX12_together 35 = .ok (.ifCond .eq 9, 3) := by decide +kernel
theorem dX12_together_38 : decode cX12_together 38 = .ok (.aload_n 0, 1) := by decide +kernel
theorem dX12_together_39 : decode cX12_together 39 = .ok (.iload_n 3, 1) := by decide +kernel
theorem dX12_together_40 : decode cX12_together 40 = .ok (.invokevirtual 127, 3) := by decide +kernel
theorem dX12_together_43 : decode cX12_together 43 = .ok (.ireturn, 1) := by decide +kernel
theorem dX12_together_44 : decode cX12_together 44 = .ok (.aload_n 0, 1) := by decide +kernel
theorem dX12_together_45 : decode cX12_together 45 = .ok (.invokevirtual 215, 3) := by decide +kernel
theorem dX12_together_48 : decode cX12_together 48 = .ok (.aload_n 0, 1) := by decide +kernel
theorem dX12_together_49 : decode cX12_together 49 = .ok (.getfield 34, 3) := by decide +kernel
theorem dX12_together_52 : decode cX12_together 52 = .ok (.iconst 3, 1) := by decide +kernel
theorem dX12_together_53 : decode cX12_together 53 = .ok (.iaload, 1) := by decide +kernel
theorem dX12_together_54 : decode cX12_together 54 = .ok (.istore 4, 2) := by decide +kernel
theorem dX12_together_56 : decode cX12_together 56 = .ok (.iload_n 1, 1) := by decide +kernel
theorem dX12_together_57 : decode cX12_together 57 = .ok (.iload_n 2, 1) := by decide +kernel
theorem dX12_together_58 : decode cX12_together 58 = .ok (.if_icmp .le 7, 3) := by decide +kernel
theorem dX12_together_61 : decode cX12_together 61 = .ok (.iload_n 1, 1) := by decide +kernel
theorem dX12_together_62 : decode cX12_together 62 = .ok (.goto 4, 3) := by decide +kernel
theorem dX12_together_65 : decode cX12_together 65 = .ok (.iload_n 2, 1) := by decide +kernel
theorem dX12_together_66 : decode cX12_together 66 = .ok (.istore 5, 2) := by decide +kernel
theorem dX12_together_68 : decode cX12_together 68 = .ok (.iconst 0, 1) := by decide +kernel
theorem dX12_together_69 : decode cX12_together 69 = .ok (.istore 6, 2) := by decide +kernel
theorem dX12_together_71 : decode cX12_together 71 = .ok (.iconst 0, 1) := by decide +kernel
theorem dX12_together_72 : decode cX12_together 72 = .ok (.istore 7, 2) := by decide +kernel
theorem dX12_together_74 : decode cX12_together 74 = .ok (.iload 7, 2) := by decide +kernel
theorem dX12_together_76 : decode cX12_together 76 = .ok (.aload_n 0, 1) := by decide +kernel
theorem dX12_together_77 : decode cX12_together 77 = .ok (.getfield 169, 3) := by decide +kernel
theorem dX12_together_80 : decode cX12_together 80 = .ok (.if_icmp .ge 74, 3) := by decide +kernel
theorem dX12_together_83 : decode cX12_together 83 = .ok (.aload_n 0, 1) := by decide +kernel
theorem dX12_together_84 : decode cX12_together 84 = .ok (.iload 4, 2) := by decide +kernel
theorem dX12_together_86 : decode cX12_together 86 = .ok (.aload_n 0, 1) := by decide +kernel
theorem dX12_together_87 : decode cX12_together 87 = .ok (.getfield 49, 3) := by decide +kernel
theorem dX12_together_90 : decode cX12_together 90 = .ok (.iload 7, 2) := by decide +kernel
theorem dX12_together_92 : decode cX12_together 92 = .ok (.iaload, 1) := by decide +kernel
theorem dX12_together_93 : decode cX12_together 93 = .ok (.invokevirtual 218, 3) := by decide +kernel
theorem dX12_together_96 : decode cX12_together 96 = .ok (.ldc 116, 2) := by decide +kernel
theorem dX12_together_98 : decode cX12_together 98 = .ok (.if_icmp .lt 6, 3) := by decide +kernel
theorem dX12_together_101 : decode cX12_together 101 = .ok (.goto 47, 3) := by decide +kernel
theorem dX12_together_104 : decode cX12_together 104 = .ok (.iload 5, 2) := by decide +kernel
theorem dX12_together_106 : decode cX12_together 106 = .ok (.aload_n 0, 1) := by decide +kernel
theorem dX12_together_107 : decode cX12_together 107 = .ok (.iload 4, 2) := by decide +kernel
theorem dX12_together_109 : decode cX12_together 109 = .ok (.aload_n 0, 1) := by decide +kernel
theorem dX12_together_110 : decode cX12_together 110 = .ok (.getfield 49, 3) := by decide +kernel
theorem dX12_together_113 : decode cX12_together 113 = .ok (.iload 7, 2) := by decide +kernel
theorem dX12_together_115 : decode cX12_together 115 = .ok (.iaload, 1) := by decide +kernel
theorem dX12_together_116 : decode cX12_together 116 = .ok (.invokevirtual 218, 3) := by decide +kernel
theorem dX12_together_119 : decode cX12_together 119 = .ok (.iadd, 1) := by decide +kernel
theorem dX12_together_120 : decode cX12_together 120 = .ok (.istore 5, 2) := by decide +kernel
theorem dX12_together_122 : decode cX12_together 122 = .ok (.aload_n 0, 1) := by decide +kernel
theorem dX12_together_123 : decode cX12_together 123 = .ok (.getfield 49, 3) := by decide +kernel
theorem dX12_together_126 : decode cX12_together 126 = .ok (.iload 7, 2) := by decide +kernel
theorem dX12_together_128 : decode cX12_together 128 = .ok (.iaload, 1) := by decide +kernel
theorem dX12_together_129 : decode cX12_together 129 = .ok (.istore 4, 2) := by decide +kernel
theorem dX12_together_131 : decode cX12_together 131 = .ok (.iload 5, 2) := by decide +kernel
theorem dX12_together_133 : decode cX12_together 133 = .ok (.aload_n 0, 1) := by decide +kernel
theorem dX12_together_134 : decode cX12_together 134 = .ok (.getfield 34, 3) := by decide +kernel
theorem dX12_together_137 : decode cX12_together 137 = .ok (.iconst 2, 1) := by decide +kernel
theorem dX12_together_138 : decode cX12_together 138 = .ok (.iaload, 1) := by decide +kernel
theorem dX12_together_139 : decode cX12_together 139 = .ok (.if_icmp .le 6, 3) := by decide +kernel
theorem dX12_together_142 : decode cX12_together 142 = .ok (.iload 6, 2) := by decide +kernel
theorem dX12_together_144 : decode cX12_together 144 = .ok (.ireturn, 1) := by decide +kernel
theorem dX12_together_145 : decode cX12_together 145 = .ok (.iinc 6 1, 3) := by decide +kernel
theorem dX12_together_148 : decode cX12_together 148 = .ok (.iinc 7 1, 3) := by decide +kernel
theorem dX12_together_151 : decode cX12_together 151 = .ok (.goto (-77), 3) := by decide +kernel
theorem dX12_together_154 : decode cX12_together 154 = .ok (.iload 6, 2) := by decide +kernel
theorem dX12_together_156 : decode cX12_together 156 = .ok (.ireturn, 1) := by decide +kernel
theorem dX12_child_0 : decode cX12_child 0 = .ok (.iload_n 1, 1) := by decide +kernel
theorem dX12_child_1 : decode cX12_child 1 = .ok (.ifCond .lt 11, 3) := by decide +kernel
theorem dX12_child_4 : decode cX12_child 4 = .ok (.iload_n 2, 1) := by decide +kernel
theorem dX12_child_5 : decode cX12_child 5 = .ok (.ifCond .lt 7, 3) := by decide +kernel
theorem dX12_child_8 : decode cX12_child 8 = .ok (.iload_n 3, 1) := by decide +kernel
theorem dX12_child_9 : decode cX12_child 9 = .ok (.ifCond .ge 8, 3) := by decide +kernel
theorem dX12_child_12 : decode cX12_child 12 = .ok (.bipush (-4), 2) := by decide +kernel
theorem dX12_child_14 : decode cX12_child 14 = .ok (.goto 30, 3) := by decide +kernel
theorem dX12_child_17 : decode cX12_child 17 = .ok (.iload_n 1, 1) := by decide +kernel
theorem dX12_child_18 : decode cX12_child 18 = .ok (.sipush 999, 3) := by decide +kernel
theorem dX12_child_21 : decode cX12_child 21 = .ok (.if_icmp .gt 17, 3) := by decide +kernel
theorem dX12_child_24 : decode cX12_child 24 = .ok (.iload_n 2, 1) := by decide +kernel
theorem dX12_child_25 : decode cX12_child 25 = .ok (.sipush 999, 3) := by decide +kernel
theorem dX12_child_28 : decode cX12_child 28 = .ok (.if_icmp .gt 10, 3) := by decide +kernel
theorem dX12_child_31 : decode cX12_child 31 = .ok (.iload_n 3, 1) := by decide +kernel
theorem dX12_child_32 : decode cX12_child 32 = .ok (.sipush 999, 3) := by decide +kernel
theorem dX12_child_35 : decode cX12_child 35 = .ok (.if_icmp .le 8, 3) := by decide +kernel
theorem dX12_child_38 : decode cX12_child 38 = .ok (.bipush (-6), 2) := by decide +kernel
theorem dX12_child_40 : decode cX12_child 40 = .ok (.goto 4, 3) := by decide +kernel
theorem dX12_child_43 : decode cX12_child 43 = .ok (.iconst 0, 1) := by decide +kernel
theorem dX12_child_44 : decode cX12_child 44 = .ok (.istore 4, 2) := by decide +kernel
theorem dX12_child_46 : decode cX12_child 46 = .ok (.iload 4, 2) := by decide +kernel
theorem dX12_child_48 : decode cX12_child 48 = .ok (.ifCond .eq 10, 3) := by decide +kernel
theorem dX12_child_51 : decode cX12_child 51 = .ok (.aload_n 0, 1) := by decide +kernel
theorem dX12_child_52 : decode cX12_child 52 = .ok (.iload 4, 2) := by decide +kernel
theorem dX12_child_54 : decode cX12_child 54 = .ok (.invokevirtual 127, 3) := by decide +kernel
theorem dX12_child_57 : decode cX12_child 57 = .ok (.ireturn, 1) := by decide +kernel
theorem dX12_child_58 : decode cX12_child 58 = .ok (.bipush (-9), 2) := by decide +kernel
theorem dX12_child_60 : decode cX12_child 60 = .ok (.istore 5, 2) := by decide +kernel
theorem dX12_child_62 : decode cX12_child 62 = .ok (.iconst 0, 1) := by decide +kernel
theorem dX12_child_63 : decode cX12_child 63 = .ok (.istore 6, 2) := by decide +kernel
theorem dX12_child_65 : decode cX12_child 65 = .ok (.iload 6, 2) := by decide +kernel
theorem dX12_child_67 : decode cX12_child 67 = .ok (.iload_n 1, 1) := by decide +kernel
theorem dX12_child_68 : decode cX12_child 68 = .ok (.if_icmp .gt 69, 3) := by decide +kernel
theorem dX12_child_71 : decode cX12_child 71 = .ok (.iload 6, 2) := by decide +kernel
theorem dX12_child_73 : decode cX12_child 73 = .ok (.iload_n 3, 1) := by decide +kernel
theorem dX12_child_74 : decode cX12_child 74 = .ok (.if_icmp .gt 63, 3) := by decide +kernel
theorem dX12_child_77 : decode cX12_child 77 = .ok (.iload_n 1, 1) := by decide +kernel
theorem dX12_child_78 : decode cX12_child 78 = .ok (.iload 6, 2) := by decide +kernel
theorem dX12_child_80 : decode cX12_child 80 = .ok (.isub, 1) := by decide +kernel
theorem dX12_child_81 : decode cX12_child 81 = .ok (.istore 7, 2) := by decide +kernel
theorem dX12_child_83 : decode cX12_child 83 = .ok (.iload_n 2, 1) := by decide +kernel
theorem dX12_child_84 : decode cX12_child 84 = .ok (.iload_n 3, 1) := by decide +kernel
theorem dX12_child_85 : decode cX12_child 85 = .ok (.iload 6, 2) := by decide +kernel
theorem dX12_child_87 : decode cX12_child 87 = .ok (.isub, 1) := by decide +kernel
theorem dX12_child_88 : decode cX12_child 88 = .ok (.isub, 1) := by decide +kernel
theorem dX12_child_89 : decode cX12_child 89 = .ok (.istore 8, 2) := by decide +kernel
theorem dX12_child_91 : decode cX12_child 91 = .ok (.iload 8, 2) := by decide +kernel
theorem dX12_child_93 : decode cX12_child 93 = .ok (.ifCond .ge 6, 3) := by decide +kernel
theorem dX12_child_96 : decode cX12_child 96 = .ok (.goto 35, 3) := by decide +kernel
theorem dX12_child_99 : decode cX12_child 99 = .ok (.iload 7, 2) := by decide +kernel
theorem dX12_child_101 : decode cX12_child 101 = .ok (.iload 8, 2) := by decide +kernel
theorem dX12_child_103 : decode cX12_child 103 = .ok (.if_icmp .ge 8, 3) := by decide +kernel
theorem dX12_child_106 : decode cX12_child 106 = .ok (.iload 7, 2) := by decide +kernel
theorem dX12_child_108 : decode cX12_child 108 = .ok (.goto 5, 3) := by decide +kernel
theorem dX12_child_111 : decode cX12_child 111 = .ok (.iload 8, 2) := by decide +kernel
theorem dX12_child_113 : decode cX12_child 113 = .ok (.istore 9, 2) := by decide +kernel
theorem dX12_child_115 : decode cX12_child 115 = .ok (.iload 9, 2) := by decide +kernel
theorem dX12_child_117 : decode cX12_child 117 = .ok (.iload 5, 2) := by decide +kernel
theorem dX12_child_119 : decode cX12_child 119 = .ok (.if_icmp .le 8, 3) := by decide +kernel
theorem dX12_child_122 : decode cX12_child 122 = .ok (.iload 9, 2) := by decide +kernel
theorem dX12_child_124 : decode cX12_child 124 = .ok (.goto 5, 3) := by decide +kernel
theorem dX12_child_127 : decode cX12_child 127 = .ok (.iload 5, 2) := by decide +kernel
theorem dX12_child_129 : decode cX12_child 129 = .ok (.istore 5, 2) := by decide +kernel
theorem dX12_child_131 : decode cX12_child 131 = .ok (.iinc 6 1, 3) := by decide +kernel
theorem dX12_child_134 : decode cX12_child 134 = .ok (.goto (-69), 3) := by decide +kernel
theorem dX12_child_137 : decode cX12_child 137 = .ok (.iload 5, 2) := by decide +kernel
theorem dX12_child_139 : decode cX12_child 139 = .ok (.ireturn, 1) := by decide +kernel
theorem dX12_person_0 : decode cX12_person 0 = .ok (.aload_n 0, 1) := by decide +kernel
theorem dX12_person_1 : decode cX12_person 1 = .ok (.iload_n 1, 1) := by decide +kernel
theorem dX12_person_2 : decode cX12_person 2 = .ok (.invokevirtual 172, 3) := by decide +kernel
theorem dX12_person_5 : decode cX12_person 5 = .ok (.ifCond .ne 9, 3) := by decide +kernel
theorem dX12_person_8 : decode cX12_person 8 = .ok (.aload_n 0, 1) := by decide +kernel
theorem dX12_person_9 : decode cX12_person 9 = .ok (.iconst (-1), 1) := by decide +kernel
theorem dX12_person_10 : decode cX12_person 10 = .ok (.invokevirtual 127, 3) := by decide +kernel
theorem dX12_person_13 : decode cX12_person 13 = .ok (.ireturn, 1) := by decide +kernel
theorem dX12_person_14 : decode cX12_person 14 = .ok (.iload_n 2, 1) := by decide +kernel
theorem dX12_person_15 : decode cX12_person 15 = .ok (.iconst 0, 1) := by decide +kernel
theorem dX12_person_16 : decode cX12_person 16 = .ok (.sipush 999, 3) := by decide +kernel
theorem dX12_person_19 : decode cX12_person 19 = .ok (.invokestatic 120, 3) := by decide +kernel
theorem dX12_person_22 : decode cX12_person 22 = .ok (.istore_n 3, 1) := by decide +kernel
theorem dX12_person_23 : decode cX12_person 23 = .ok (.iload_n 3, 1) := by decide +kernel
theorem dX12_person_24 : decode cX12_person 24 = .ok (.ifCond .ne 14, 3) := by decide +kernel
theorem dX12_person_27 : decode cX12_person 27 = .ok (.aload_n 0, 1) := by decide +kernel
theorem dX12_person_28 : decode cX12_person 28 = .ok (.getfield 166, 3) := by decide +kernel
theorem dX12_person_31 : decode cX12_person 31 = .ok (.iconst 4, 1) := by decide +kernel
theorem dX12_person_32 : decode cX12_person 32 = .ok (.if_icmp .ne 6, 3) := by decide +kernel
theorem dX12_person_35 : decode cX12_person 35 = .ok (.bipush (-6), 2) := by decide +kernel
theorem dX12_person_37 : decode cX12_person 37 = .ok (.istore_n 3, 1) := by decide +kernel
theorem dX12_person_38 : decode cX12_person 38 = .ok (.iload_n 3, 1) := by decide +kernel
theorem dX12_person_39 : decode cX12_person 39 = .ok (.ifCond .eq 9, 3) := by decide +kernel
theorem dX12_person_42 : decode cX12_person 42 = .ok (.aload_n 0, 1) := by decide +kernel
theorem dX12_person_43 : decode cX12_person 43 = .ok (.iload_n 3, 1) := by decide +kernel
theorem dX12_person_44 : decode cX12_person 44 = .ok (.invokevirtual 127, 3) := by decide +kernel
theorem dX12_person_47 : decode cX12_person 47 = .ok (.ireturn, 1) := by decide +kernel
theorem dX12_person_48 : decode cX12_person 48 = .ok (.aload_n 0, 1) := by decide +kernel
theorem dX12_person_49 : decode cX12_person 49 = .ok (.getfield 43, 3) := by decide +kernel
theorem dX12_person_52 : decode cX12_person 52 = .ok (.aload_n 0, 1) := by decide +kernel
theorem dX12_person_53 : decode cX12_person 53 = .ok (.getfield 166, 3) := by decide +kernel
theorem dX12_person_56 : decode cX12_person 56 = .ok (.iload_n 1, 1) := by decide +kernel
theorem dX12_person_57 : decode cX12_person 57 = .ok (.iastore, 1) := by decide +kernel
theorem dX12_person_58 : decode cX12_person 58 = .ok (.aload_n 0, 1) := by decide +kernel
theorem dX12_person_59 : decode cX12_person 59 = .ok (.getfield 46, 3) := by decide +kernel
theorem dX12_person_62 : decode cX12_person 62 = .ok (.aload_n 0, 1) := by decide +kernel
theorem dX12_person_63 : decode cX12_person 63 = .ok (.getfield 166, 3) := by decide +kernel
theorem dX12_person_66 : decode cX12_person 66 = .ok (.iload_n 2, 1) := by decide +kernel
theorem dX12_person_67 : decode cX12_person 67 = .ok (.iastore, 1) := by decide +kernel
theorem dX12_person_68 : decode cX12_person 68 = .ok (.aload_n 0, 1) := by decide +kernel
theorem dX12_person_69 : decode cX12_person 69 = .ok (.dup, 1) := by decide +kernel
theorem dX12_person_70 : decode cX12_person 70 = .ok (.getfield 166, 3) := by decide +kernel
theorem dX12_person_73 : decode cX12_person 73 = .ok (.iconst 1, 1) := by decide +kernel
theorem dX12_person_74 : decode cX12_person 74 = .ok (.iadd, 1) := by decide +kernel
theorem dX12_person_75 : decode cX12_person 75 = .ok (.putfield 166, 3) := by decide +kernel
theorem dX12_person_78 : decode cX12_person 78 = .ok (.aload_n 0, 1) := by decide +kernel
theorem dX12_person_79 : decode cX12_person 79 = .ok (.getfield 166, 3) := by decide +kernel
theorem dX12_person_82 : decode cX12_person 82 = .ok (.ireturn, 1) := by decide +kernel
theorem dX12_send_0 : decode cX12_send 0 = .ok (.aload_n 0, 1) := by decide +kernel
theorem dX12_send_1 : decode cX12_send 1 = .ok (.iload_n 1, 1) := by decide +kernel
theorem dX12_send_2 : decode cX12_send 2 = .ok (.invokevirtual 172, 3) := by decide +kernel
theorem dX12_send_5 : decode cX12_send 5 = .ok (.ifCond .ne 9, 3) := by decide +kernel
theorem dX12_send_8 : decode cX12_send 8 = .ok (.aload_n 0, 1) := by decide +kernel
theorem dX12_send_9 : decode cX12_send 9 = .ok (.iconst (-1), 1) := by decide +kernel
theorem dX12_send_10 : decode cX12_send 10 = .ok (.invokevirtual 127, 3) := by decide +kernel
theorem dX12_send_13 : decode cX12_send 13 = .ok (.ireturn, 1) := by decide +kernel
theorem dX12_send_14 : decode cX12_send 14 = .ok (.iload_n 2, 1) := by decide +kernel
theorem dX12_send_15 : decode cX12_send 15 = .ok (.iconst 0, 1) := by decide +kernel
theorem dX12_send_16 : decode cX12_send 16 = .ok (.iconst 1, 1) := by decide +kernel
theorem dX12_send_17 : decode cX12_send 17 = .ok (.invokestatic 140, 3) := by decide +kernel
theorem dX12_send_20 : decode cX12_send 20 = .ok (.ifCond .ne 10, 3) := by decide +kernel
theorem dX12_send_23 : decode cX12_send 23 = .ok (.aload_n 0, 1) := by decide +kernel
theorem dX12_send_24 : decode cX12_send 24 = .ok (.bipush (-2), 2) := by decide +kernel
theorem dX12_send_26 : decode cX12_send 26 = .ok (.invokevirtual 127, 3) := by decide +kernel
theorem dX12_send_29 : decode cX12_send 29 = .ok (.ireturn, 1) := by decide +kernel
theorem dX12_send_30 : decode cX12_send 30 = .ok (.aload_n 0, 1) := by decide +kernel
theorem dX12_send_31 : decode cX12_send 31 = .ok (.invokevirtual 215, 3) := by decide +kernel
theorem dX12_send_34 : decode cX12_send 34 = .ok (.bipush (-9), 2) := by decide +kernel
theorem dX12_send_36 : decode cX12_send 36 = .ok (.istore_n 3, 1) := by decide +kernel
theorem dX12_send_37 : decode cX12_send 37 = .ok (.bipush (-9), 2) := by decide +kernel
theorem dX12_send_39 : decode cX12_send 39 = .ok (.istore 4, 2) := by decide +kernel
theorem dX12_send_41 : decode cX12_send 41 = .ok (.iconst 0, 1) := by decide +kernel
theorem dX12_send_42 : decode cX12_send 42 = .ok (.istore 5, 2) := by decide +kernel
theorem dX12_send_44 : decode cX12_send 44 = .ok (.iload 5, 2) := by decide +kernel
theorem dX12_send_46 : decode cX12_send 46 = .ok (.aload_n 0, 1) := by decide +kernel
theorem dX12_send_47 : decode cX12_send 47 = .ok (.getfield 166, 3) := by decide +kernel
theorem dX12_send_50 : decode cX12_send 50 = .ok (.if_icmp .ge 117, 3) := by decide +kernel
theorem dX12_send_53 : decode cX12_send 53 = .ok (.iconst 2, 1) := by decide +kernel
theorem dX12_send_54 : decode cX12_send 54 = .ok (.aload_n 0, 1) := by decide +kernel
theorem dX12_send_55 : decode cX12_send 55 = .ok (.aload_n 0, 1) := by decide +kernel
theorem dX12_send_56 : decode cX12_send 56 = .ok (.getfield 43, 3) := by decide +kernel
theorem dX12_send_59 : decode cX12_send 59 = .ok (.iload 5, 2) := by decide +kernel
theorem dX12_send_61 : decode cX12_send 61 = .ok (.iaload, 1) := by decide +kernel
theorem dX12_send_62 : decode cX12_send 62 = .ok (.iload_n 1, 1) := by decide +kernel
theorem dX12_send_63 : decode cX12_send 63 = .ok (.invokevirtual 218, 3) := by decide +kernel
theorem dX12_send_66 : decode cX12_send 66 = .ok (.imul, 1) := by decide +kernel
theorem dX12_send_67 : decode cX12_send 67 = .ok (.istore 6, 2) := by decide +kernel
theorem dX12_send_69 : decode cX12_send 69 = .ok (.aload_n 0, 1) := by decide +kernel
theorem dX12_send_70 : decode cX12_send 70 = .ok (.getfield 46, 3) := by decide +kernel
theorem dX12_send_73 : decode cX12_send 73 = .ok (.iload 5, 2) := by decide +kernel
theorem dX12_send_75 : decode cX12_send 75 = .ok (.iaload, 1) := by decide +kernel
theorem dX12_send_76 : decode cX12_send 76 = .ok (.iload 6, 2) := by decide +kernel
theorem dX12_send_78 : decode cX12_send 78 = .ok (.iadd, 1) := by decide +kernel
theorem dX12_send_79 : decode cX12_send 79 = .ok (.aload_n 0, 1) := by decide +kernel
theorem dX12_send_80 : decode cX12_send 80 = .ok (.getfield 34, 3) := by decide +kernel
theorem dX12_send_83 : decode cX12_send 83 = .ok (.iconst 2, 1) := by decide +kernel
theorem dX12_send_84 : decode cX12_send 84 = .ok (.iaload, 1) := by decide +kernel
theorem dX12_send_85 : decode cX12_send 85 = .ok (.if_icmp .le 6, 3) := by decide +kernel
theorem dX12_send_88 : decode cX12_send 88 = .ok (.goto 73, 3) := by decide +kernel
theorem dX12_send_91 : decode cX12_send 91 = .ok (.aload_n 0, 1) := by decide +kernel
theorem dX12_send_92 : decode cX12_send 92 = .ok (.getfield 46, 3) := by decide +kernel
theorem dX12_send_95 : decode cX12_send 95 = .ok (.iload 5, 2) := by decide +kernel
theorem dX12_send_97 : decode cX12_send 97 = .ok (.iaload, 1) := by decide +kernel
theorem dX12_send_98 : decode cX12_send 98 = .ok (.aload_n 0, 1) := by decide +kernel
theorem dX12_send_99 : decode cX12_send 99 = .ok (.getfield 34, 3) := by decide +kernel
theorem dX12_send_102 : decode cX12_send 102 = .ok (.iconst 0, 1) := by decide +kernel
theorem dX12_send_103 : decode cX12_send 103 = .ok (.iaload, 1) := by decide +kernel
theorem dX12_send_104 : decode cX12_send 104 = .ok (.if_icmp .ge 7, 3) := by decide +kernel
theorem dX12_send_107 : decode cX12_send 107 = .ok (.iconst 4, 1) := by decide +kernel
theorem dX12_send_108 : decode cX12_send 108 = .ok (.goto 24, 3) := by decide +kernel
theorem dX12_send_111 : decode cX12_send 111 = .ok (.aload_n 0, 1) := by decide +kernel
theorem dX12_send_112 : decode cX12_send 112 = .ok (.getfield 46, 3) := by decide +kernel
theorem dX12_send_115 : decode cX12_send 115 = .ok (.iload 5, 2) := by decide +kernel
theorem dX12_send_117 : decode cX12_send 117 = .ok (.iaload, 1) := by decide +kernel
theorem dX12_send_118 : decode cX12_send 118 = .ok (.aload_n 0, 1) := by decide +kernel
theorem dX12_send_119 : decode cX12_send 119 = .ok (.getfield 34, 3) := by decide +kernel
theorem dX12_send_122 : decode cX12_send 122 = .ok (.iconst 1, 1) := by decide +kernel
theorem dX12_send_123 : decode cX12_send 123 = .ok (.iaload, 1) := by decide +kernel
theorem dX12_send_124 : decode cX12_send 124 = .ok (.if_icmp .ge 7, 3) := by decide +kernel
theorem dX12_send_127 : decode cX12_send 127 = .ok (.iconst 3, 1) := by decide +kernel
theorem dX12_send_128 : decode cX12_send 128 = .ok (.goto 4, 3) := by decide +kernel
theorem dX12_send_131 : decode cX12_send 131 = .ok (.iconst 1, 1) := by decide +kernel
theorem dX12_send_132 : decode cX12_send 132 = .ok (.istore 7, 2) := by decide +kernel
theorem dX12_send_134 : decode cX12_send 134 = .ok (.iload_n 3, 1) := by decide +kernel
theorem dX12_send_135 : decode cX12_send 135 = .ok (.ifCond .lt 16, 3) := by decide +kernel
theorem dX12_send_138 : decode cX12_send 138 = .ok (.iload 6, 2) := by decide +kernel
theorem dX12_send_140 : decode cX12_send 140 = .ok (.iload 7, 2) := by decide +kernel
theorem dX12_send_142 : decode cX12_send 142 = .ok (.imul, 1) := by decide +kernel
theorem dX12_send_143 : decode cX12_send 143 = .ok (.iload 4, 2) := by decide +kernel
theorem dX12_send_145 : decode cX12_send 145 = .ok (.if_icmp .lt 6, 3) := by decide +kernel
theorem dX12_send_148 : decode cX12_send 148 = .ok (.goto 13, 3) := by decide +kernel
theorem dX12_send_151 : decode cX12_send 151 = .ok (.iload 5, 2) := by decide +kernel
theorem dX12_send_153 : decode cX12_send 153 = .ok (.istore_n 3, 1) := by decide +kernel
theorem dX12_send_154 : decode cX12_send 154 = .ok (.iload 6, 2) := by decide +kernel
theorem dX12_send_156 : decode cX12_send 156 = .ok (.iload 7, 2) := by decide +kernel
theorem dX12_send_158 : decode cX12_send 158 = .ok (.imul, 1) := by decide +kernel
theorem dX12_send_159 : decode cX12_send 159 = .ok (.istore 4, 2) := by decide +kernel
theorem dX12_send_161 : decode cX12_send 161 = .ok (.iinc 5 1, 3) := by decide +kernel
theorem dX12_send_164 : decode cX12_send 164 = .ok (.goto (-120), 3) := by decide +kernel
theorem dX12_send_167 : decode cX12_send 167 = .ok (.iload_n 2, 1) := by decide +kernel
theorem dX12_send_168 : decode cX12_send 168 = .ok (.ifCond .ne 7, 3) := by decide +kernel
theorem dX12_send_171 : decode cX12_send 171 = .ok (.iload_n 3, 1) := by decide +kernel
theorem dX12_send_172 : decode cX12_send 172 = .ok (.goto 5, 3) := by decide +kernel
theorem dX12_send_175 : decode cX12_send 175 = .ok (.iload 4, 2) := by decide +kernel
theorem dX12_send_177 : decode cX12_send 177 = .ok (.ireturn, 1) := by decide +kernel
theorem dX12_bits_0 : decode cX12_bits 0 = .ok (.iconst 0, 1) := by decide +kernel
theorem dX12_bits_1 : decode cX12_bits 1 = .ok (.istore_n 1, 1) := by decide +kernel
theorem dX12_bits_2 : decode cX12_bits 2 = .ok (.iconst 0, 1) := by decide +kernel
theorem dX12_bits_3 : decode cX12_bits 3 = .ok (.istore_n 2, 1) := by decide +kernel
theorem dX12_bits_4 : decode cX12_bits 4 = .ok (.iload_n 2, 1) := by decide +kernel
theorem dX12_bits_5 : decode cX12_bits 5 = .ok (.bipush 31, 2) := by decide +kernel
theorem dX12_bits_7 : decode cX12_bits 7 = .ok (.if_icmp .ge 17, 3) := by decide +kernel
theorem dX12_bits_10 : decode cX12_bits 10 = .ok (.iload_n 1, 1) := by decide +kernel
theorem dX12_bits_11 : decode cX12_bits 11 = .ok (.iload_n 0, 1) := by decide +kernel
theorem dX12_bits_12 : decode cX12_bits 12 = .ok (.iload_n 2, 1) := by decide +kernel
theorem dX12_bits_13 : decode cX12_bits 13 = .ok (.ishr, 1) := by decide +kernel
theorem dX12_bits_14 : decode cX12_bits 14 = .ok (.iconst 1, 1) := by decide +kernel
theorem dX12_bits_15 : decode cX12_bits 15 = .ok (.iand, 1) := by decide +kernel
theorem dX12_bits_16 : decode cX12_bits 16 = .ok (.iadd, 1) := by decide +kernel
theorem dX12_bits_17 : decode cX12_bits 17 = .ok (.istore_n 1, 1) := by decide +kernel
theorem dX12_bits_18 : decode cX12_bits 18 = .ok (.iinc 2 1, 3) := by decide +kernel
theorem dX12_bits_21 : decode cX12_bits 21 = .ok (.goto (-17), 3) := by decide +kernel
theorem dX12_bits_24 : decode cX12_bits 24 = .ok (.iload_n 1, 1) := by decide +kernel
theorem dX12_bits_25 : decode cX12_bits 25 = .ok (.ireturn, 1) := by decide +kernel
theorem dX12_sumTo_0 : decode cX12_sumTo 0 = .ok (.iconst 0, 1) := by decide +kernel
theorem dX12_sumTo_1 : decode cX12_sumTo 1 = .ok (.istore_n 2, 1) := by decide +kernel
theorem dX12_sumTo_2 : decode cX12_sumTo 2 = .ok (.iconst 0, 1) := by decide +kernel
theorem dX12_sumTo_3 : decode cX12_sumTo 3 = .ok (.istore_n 3, 1) := by decide +kernel
theorem dX12_sumTo_4 : decode cX12_sumTo 4 = .ok (.iload_n 3, 1) := by decide +kernel
theorem dX12_sumTo_5 : decode cX12_sumTo 5 = .ok (.aload_n 0, 1) := by decide +kernel
theorem dX12_sumTo_6 : decode cX12_sumTo 6 = .ok (.getfield 52, 3) := by decide +kernel
theorem dX12_sumTo_9 : decode cX12_sumTo 9 = .ok (.if_icmp .ge 85, 3) := by decide +kernel
theorem dX12_sumTo_12 : decode cX12_sumTo 12 = .ok (.ldc 116, 2) := by decide +kernel
theorem dX12_sumTo_14 : decode cX12_sumTo 14 = .ok (.istore 4, 2) := by decide +kernel
theorem dX12_sumTo_16 : decode cX12_sumTo 16 = .ok (.iconst 0, 1) := by decide +kernel
theorem dX12_sumTo_17 : decode cX12_sumTo 17 = .ok (.istore 5, 2) := by decide +kernel
theorem dX12_sumTo_19 : decode cX12_sumTo 19 = .ok (.iload 5, 2) := by decide +kernel
theorem dX12_sumTo_21 : decode cX12_sumTo 21 = .ok (.aload_n 0, 1) := by decide +kernel
theorem dX12_sumTo_22 : decode cX12_sumTo 22 = .ok (.getfield 52, 3) := by decide +kernel
theorem dX12_sumTo_25 : decode cX12_sumTo 25 = .ok (.if_icmp .ge 45, 3) := by decide +kernel
theorem dX12_sumTo_28 : decode cX12_sumTo 28 = .ok (.iload_n 1, 1) := by decide +kernel
theorem dX12_sumTo_29 : decode cX12_sumTo 29 = .ok (.iload 5, 2) := by decide +kernel
theorem dX12_sumTo_31 : decode cX12_sumTo 31 = .ok (.ishr, 1) := by decide +kernel
theorem dX12_sumTo_32 : decode cX12_sumTo 32 = .ok (.iconst 1, 1) := by decide +kernel
theorem dX12_sumTo_33 : decode cX12_sumTo 33 = .ok (.iand, 1) := by decide +kernel
theorem dX12_sumTo_34 : decode cX12_sumTo 34 = .ok (.iconst 1, 1) := by decide +kernel
theorem dX12_sumTo_35 : decode cX12_sumTo 35 = .ok (.if_icmp .ne 25, 3) := by decide +kernel
theorem dX12_sumTo_38 : decode cX12_sumTo 38 = .ok (.aload_n 0, 1) := by decide +kernel
theorem dX12_sumTo_39 : decode cX12_sumTo 39 = .ok (.iload_n 3, 1) := by decide +kernel
theorem dX12_sumTo_40 : decode cX12_sumTo 40 = .ok (.iload 5, 2) := by decide +kernel
theorem dX12_sumTo_42 : decode cX12_sumTo 42 = .ok (.invokevirtual 218, 3) := by decide +kernel
theorem dX12_sumTo_45 : decode cX12_sumTo 45 = .ok (.iload 4, 2) := by decide +kernel
theorem dX12_sumTo_47 : decode cX12_sumTo 47 = .ok (.if_icmp .ge 13, 3) := by decide +kernel
theorem dX12_sumTo_50 : decode cX12_sumTo 50 = .ok (.aload_n 0, 1) := by decide +kernel
theorem dX12_sumTo_51 : decode cX12_sumTo 51 = .ok (.iload_n 3, 1) := by decide +kernel
theorem dX12_sumTo_52 : decode cX12_sumTo 52 = .ok (.iload 5, 2) := by decide +kernel
theorem dX12_sumTo_54 : decode cX12_sumTo 54 = .ok (.invokevirtual 218, 3) := by decide +kernel
theorem dX12_sumTo_57 : decode cX12_sumTo 57 = .ok (.goto 5, 3) := by decide +kernel
theorem dX12_sumTo_60 : decode cX12_sumTo 60 = .ok (.iload 4, 2) := by decide +kernel
theorem dX12_sumTo_62 : decode cX12_sumTo 62 = .ok (.istore 4, 2) := by decide +kernel
theorem dX12_sumTo_64 : decode cX12_sumTo 64 = .ok (.iinc 5 1, 3) := by decide +kernel
theorem dX12_sumTo_67 : decode cX12_sumTo 67 = .ok (.goto (-48), 3) := by decide +kernel
theorem dX12_sumTo_70 : decode cX12_sumTo 70 = .ok (.iload_n 2, 1) := by decide +kernel
theorem dX12_sumTo_71 : decode cX12_sumTo 71 = .ok (.iload 4, 2) := by decide +kernel
theorem dX12_sumTo_73 : decode cX12_sumTo 73 = .ok (.ldc 116, 2) := by decide +kernel
theorem dX12_sumTo_75 : decode cX12_sumTo 75 = .ok (.if_icmp .lt 9, 3) := by decide +kernel
theorem dX12_sumTo_78 : decode cX12_sumTo 78 = .ok (.sipush 1000, 3) := by decide +kernel
theorem dX12_sumTo_81 : decode cX12_sumTo 81 = .ok (.goto 5, 3) := by decide +kernel
theorem dX12_sumTo_84 : decode cX12_sumTo 84 = .ok (.iload 4, 2) := by decide +kernel
theorem dX12_sumTo_86 : decode cX12_sumTo 86 = .ok (.iadd, 1) := by decide +kernel
theorem dX12_sumTo_87 : decode cX12_sumTo 87 = .ok (.istore_n 2, 1) := by decide +kernel
theorem dX12_sumTo_88 : decode cX12_sumTo 88 = .ok (.iinc 3 1, 3) := by decide +kernel
theorem dX12_sumTo_91 : decode cX12_sumTo 91 = .ok (.goto (-87), 3) := by decide +kernel
theorem dX12_sumTo_94 : decode cX12_sumTo 94 = .ok (.iload_n 2, 1) := by decide +kernel
theorem dX12_sumTo_95 : decode cX12_sumTo 95 = .ok (.ireturn, 1) := by decide +kernel
theorem dX12_wells_0 : decode cX12_wells 0 = .ok (.iload_n 1, 1) := by decide +kernel
theorem dX12_wells_1 : decode cX12_wells 1 = .ok (.iconst 1, 1) := by decide +kernel
theorem dX12_wells_2 : decode cX12_wells 2 = .ok (.if_icmp .ge 8, 3) := by decide +kernel
theorem dX12_wells_5 : decode cX12_wells 5 = .ok (.bipush (-4), 2) := by decide +kernel
theorem dX12_wells_7 : decode cX12_wells 7 = .ok (.goto 22, 3) := by decide +kernel
theorem dX12_wells_10 : decode cX12_wells 10 = .ok (.iload_n 1, 1) := by decide +kernel
theorem dX12_wells_11 : decode cX12_wells 11 = .ok (.iconst 3, 1) := by decide +kernel
theorem dX12_wells_12 : decode cX12_wells 12 = .ok (.if_icmp .gt 11, 3) := by decide +kernel
theorem dX12_wells_15 : decode cX12_wells 15 = .ok (.iload_n 1, 1) := by decide +kernel
theorem dX12_wells_16 : decode cX12_wells 16 = .ok (.aload_n 0, 1) := by decide +kernel
theorem dX12_wells_17 : decode cX12_wells 17 = .ok (.getfield 52, 3) := by decide +kernel
theorem dX12_wells_20 : decode cX12_wells 20 = .ok (.if_icmp .le 8, 3) := by decide +kernel
theorem dX12_wells_23 : decode cX12_wells 23 = .ok (.bipush (-6), 2) := by decide +kernel
theorem dX12_wells_25 : decode cX12_wells 25 = .ok (.goto 4, 3) := by decide +kernel
theorem dX12_wells_28 : decode cX12_wells 28 = .ok (.iconst 0, 1) := by decide +kernel
theorem dX12_wells_29 : decode cX12_wells 29 = .ok (.istore_n 2, 1) := by decide +kernel
theorem dX12_wells_30 : decode cX12_wells 30 = .ok (.iload_n 2, 1) := by decide +kernel
theorem dX12_wells_31 : decode cX12_wells 31 = .ok (.ifCond .eq 9, 3) := by decide +kernel
theorem dX12_wells_34 : decode cX12_wells 34 = .ok (.aload_n 0, 1) := by decide +kernel
theorem dX12_wells_35 : decode cX12_wells 35 = .ok (.iload_n 2, 1) := by decide +kernel
theorem dX12_wells_36 : decode cX12_wells 36 = .ok (.invokevirtual 127, 3) := by decide +kernel
theorem dX12_wells_39 : decode cX12_wells 39 = .ok (.ireturn, 1) := by decide +kernel
theorem dX12_wells_40 : decode cX12_wells 40 = .ok (.aload_n 0, 1) := by decide +kernel
theorem dX12_wells_41 : decode cX12_wells 41 = .ok (.invokevirtual 215, 3) := by decide +kernel
theorem dX12_wells_44 : decode cX12_wells 44 = .ok (.iconst (-1), 1) := by decide +kernel
theorem dX12_wells_45 : decode cX12_wells 45 = .ok (.istore_n 3, 1) := by decide +kernel
theorem dX12_wells_46 : decode cX12_wells 46 = .ok (.iconst 0, 1) := by decide +kernel
theorem dX12_wells_47 : decode cX12_wells 47 = .ok (.istore 4, 2) := by decide +kernel
theorem dX12_wells_49 : decode cX12_wells 49 = .ok (.iload 4, 2) := by decide +kernel
theorem dX12_wells_51 : decode cX12_wells 51 = .ok (.iconst 1, 1) := by decide +kernel
theorem dX12_wells_52 : decode cX12_wells 52 = .ok (.aload_n 0, 1) := by decide +kernel
theorem dX12_wells_53 : decode cX12_wells 53 = .ok (.getfield 52, 3) := by decide +kernel
theorem dX12_wells_56 : decode cX12_wells 56 = .ok (.ishl, 1) := by decide +kernel
theorem dX12_wells_57 : decode cX12_wells 57 = .ok (.if_icmp .ge 39, 3) := by decide +kernel
theorem dX12_wells_60 : decode cX12_wells 60 = .ok (.iload 4, 2) := by decide +kernel
theorem dX12_wells_62 : decode cX12_wells 62 = .ok (.invokestatic 285, 3) := by decide +kernel
theorem dX12_wells_65 : decode cX12_wells 65 = .ok (.iload_n 1, 1) := by decide +kernel
theorem dX12_wells_66 : decode cX12_wells 66 = .ok (.if_icmp .ne 24, 3) := by decide +kernel
theorem dX12_wells_69 : decode cX12_wells 69 = .ok (.iload_n 3, 1) := by decide +kernel
theorem dX12_wells_70 : decode cX12_wells 70 = .ok (.ifCond .lt 17, 3) := by decide +kernel
theorem dX12_wells_73 : decode cX12_wells 73 = .ok (.aload_n 0, 1) := by decide +kernel
theorem dX12_wells_74 : decode cX12_wells 74 = .ok (.iload 4, 2) := by decide +kernel
theorem dX12_wells_76 : decode cX12_wells 76 = .ok (.invokevirtual 288, 3) := by decide +kernel
theorem dX12_wells_79 : decode cX12_wells 79 = .ok (.aload_n 0, 1) := by decide +kernel
theorem dX12_wells_80 : decode cX12_wells 80 = .ok (.iload_n 3, 1) := by decide +kernel
theorem dX12_wells_81 : decode cX12_wells 81 = .ok (.invokevirtual 288, 3) := by decide +kernel
theorem dX12_wells_84 : decode cX12_wells 84 = .ok (.if_icmp .ge 6, 3) := by decide +kernel
theorem dX12_wells_87 : decode cX12_wells 87 = .ok (.iload 4, 2) := by decide +kernel
theorem dX12_wells_89 : decode cX12_wells 89 = .ok (.istore_n 3, 1) := by decide +kernel
theorem dX12_wells_90 : decode cX12_wells 90 = .ok (.iinc 4 1, 3) := by decide +kernel
theorem dX12_wells_93 : decode cX12_wells 93 = .ok (.goto (-44), 3) := by decide +kernel
theorem dX12_wells_96 : decode cX12_wells 96 = .ok (.iload_n 3, 1) := by decide +kernel
theorem dX12_wells_97 : decode cX12_wells 97 = .ok (.ireturn, 1) := by decide +kernel
theorem dX12_many_0 : decode cX12_many 0 = .ok (.iload_n 1, 1) := by decide +kernel
theorem dX12_many_1 : decode cX12_many 1 = .ok (.ifCond .lt 17, 3) := by decide +kernel
theorem dX12_many_4 : decode cX12_many 4 = .ok (.iload_n 2, 1) := by decide +kernel
theorem dX12_many_5 : decode cX12_many 5 = .ok (.ifCond .lt 13, 3) := by decide +kernel
theorem dX12_many_8 : decode cX12_many 8 = .ok (.iload_n 3, 1) := by decide +kernel
theorem dX12_many_9 : decode cX12_many 9 = .ok (.iconst 1, 1) := by decide +kernel
theorem dX12_many_10 : decode cX12_many 10 = .ok (.if_icmp .lt 8, 3) := by decide +kernel
theorem dX12_many_13 : decode cX12_many 13 = .ok (.iload 4, 2) := by decide +kernel
theorem dX12_many_15 : decode cX12_many 15 = .ok (.ifCond .ge 8, 3) := by decide +kernel
theorem dX12_many_18 : decode cX12_many 18 = .ok (.bipush (-4), 2) := by decide +kernel
theorem dX12_many_20 : decode cX12_many 20 = .ok (.goto 35, 3) := by decide +kernel
theorem dX12_many_23 : decode cX12_many 23 = .ok (.iload_n 1, 1) := by decide +kernel
theorem dX12_many_24 : decode cX12_many 24 = .ok (.sipush 999, 3) := by decide +kernel
theorem dX12_many_27 : decode cX12_many 27 = .ok (.if_icmp .gt 22, 3) := by decide +kernel
theorem dX12_many_30 : decode cX12_many 30 = .ok (.iload_n 2, 1) := by decide +kernel
theorem dX12_many_31 : decode cX12_many 31 = .ok (.bipush 9, 2) := by decide +kernel
theorem dX12_many_33 : decode cX12_many 33 = .ok (.if_icmp .gt 16, 3) := by decide +kernel
theorem dX12_many_36 : decode cX12_many 36 = .ok (.iload_n 3, 1) := by decide +kernel
theorem dX12_many_37 : decode cX12_many 37 = .ok (.bipush 9, 2) := by decide +kernel
theorem dX12_many_39 : decode cX12_many 39 = .ok (.if_icmp .gt 10, 3) := by decide +kernel
theorem dX12_many_42 : decode cX12_many 42 = .ok (.iload 4, 2) := by decide +kernel
theorem dX12_many_44 : decode cX12_many 44 = .ok (.bipush 15, 2) := by decide +kernel
theorem dX12_many_46 : decode cX12_many 46 = .ok (.if_icmp .le 8, 3) := by decide +kernel
theorem dX12_many_49 : decode cX12_many 49 = .ok (.bipush (-6), 2) := by decide +kernel
theorem dX12_many_51 : decode cX12_many 51 = .ok (.goto 4, 3) := by decide +kernel
theorem dX12_many_54 : decode cX12_many 54 = .ok (.iconst 0, 1) := by decide +kernel
theorem dX12_many_55 : decode cX12_many 55 = .ok (.istore 5, 2) := by decide +kernel
theorem dX12_many_57 : decode cX12_many 57 = .ok (.iload 5, 2) := by decide +kernel
theorem dX12_many_59 : decode cX12_many 59 = .ok (.ifCond .eq 10, 3) := by decide +kernel
theorem dX12_many_62 : decode cX12_many 62 = .ok (.aload_n 0, 1) := by decide +kernel
theorem dX12_many_63 : decode cX12_many 63 = .ok (.iload 5, 2) := by decide +kernel
theorem dX12_many_65 : decode cX12_many 65 = .ok (.invokevirtual 273, 3) := by decide +kernel
theorem dX12_many_68 : decode cX12_many 68 = .ok (.lreturn, 1) := by decide +kernel
theorem dX12_many_69 : decode cX12_many 69 = .ok (.aload_n 0, 1) := by decide +kernel
theorem dX12_many_70 : decode cX12_many 70 = .ok (.getfield 105, 3) := by decide +kernel
theorem dX12_many_73 : decode cX12_many 73 = .ok (.iconst 0, 1) := by decide +kernel
theorem dX12_many_74 : decode cX12_many 74 = .ok (.iload_n 1, 1) := by decide +kernel
theorem dX12_many_75 : decode cX12_many 75 = .ok (.i2l, 1) := by decide +kernel
theorem dX12_many_76 : decode cX12_many 76 = .ok (.lastore, 1) := by decide +kernel
theorem dX12_many_77 : decode cX12_many 77 = .ok (.iconst 1, 1) := by decide +kernel
theorem dX12_many_78 : decode cX12_many 78 = .ok (.istore 6, 2) := by decide +kernel
theorem dX12_many_80 : decode cX12_many 80 = .ok (.iload 6, 2) := by decide +kernel
theorem dX12_many_82 : decode cX12_many 82 = .ok (.iload 4, 2) := by decide +kernel
theorem dX12_many_84 : decode cX12_many 84 = .ok (.if_icmp .gt 48, 3) := by decide +kernel
theorem dX12_many_87 : decode cX12_many 87 = .ok (.aload_n 0, 1) := by decide +kernel
theorem dX12_many_88 : decode cX12_many 88 = .ok (.getfield 105, 3) := by decide +kernel
theorem dX12_many_91 : decode cX12_many 91 = .ok (.iload 6, 2) := by decide +kernel
theorem dX12_many_93 : decode cX12_many 93 = .ok (.aload_n 0, 1) := by decide +kernel
theorem dX12_many_94 : decode cX12_many 94 = .ok (.getfield 105, 3) := by decide +kernel
theorem dX12_many_97 : decode cX12_many 97 = .ok (.iload 6, 2) := by decide +kernel
theorem dX12_many_99 : decode cX12_many 99 = .ok (.iconst 1, 1) := by decide +kernel
theorem dX12_many_100 : decode cX12_many 100 = .ok (.isub, 1) := by decide +kernel
theorem dX12_many_101 : decode cX12_many 101 = .ok (.laload, 1) := by decide +kernel
theorem dX12_many_102 : decode cX12_many 102 = .ok (.iload 6, 2) := by decide +kernel
theorem dX12_many_104 : decode cX12_many 104 = .ok (.iload_n 3, 1) := by decide +kernel
theorem dX12_many_105 : decode cX12_many 105 = .ok (.if_icmp .lt 18, 3) := by decide +kernel
theorem dX12_many_108 : decode cX12_many 108 = .ok (.iload_n 2, 1) := by decide +kernel
theorem dX12_many_109 : decode cX12_many 109 = .ok (.i2l, 1) := by decide +kernel
theorem dX12_many_110 : decode cX12_many 110 = .ok (.aload_n 0, 1) := by decide +kernel
theorem dX12_many_111 : decode cX12_many 111 = .ok (.getfield 105, 3) := by decide +kernel
theorem dX12_many_114 : decode cX12_many 114 = .ok (.iload 6, 2) := by decide +kernel
theorem dX12_many_116 : decode cX12_many 116 = .ok (.iload_n 3, 1) := by decide +kernel
theorem dX12_many_117 : decode cX12_many 117 = .ok (.isub, 1) := by decide +kernel
theorem dX12_many_118 : decode cX12_many 118 = .ok (.laload, 1) := by decide +kernel
theorem dX12_many_119 : decode cX12_many 119 = .ok (.lmul, 1) := by decide +kernel
theorem dX12_many_120 : decode cX12_many 120 = .ok (.goto 4, 3) := by decide +kernel
theorem dX12_many_123 : decode cX12_many 123 = .ok (.lconst 0, 1) := by decide +kernel
theorem dX12_many_124 : decode cX12_many 124 = .ok (.ladd, 1) := by decide +kernel
theorem dX12_many_125 : decode cX12_many 125 = .ok (.lastore, 1) := by decide +kernel
theorem dX12_many_126 : decode cX12_many 126 = .ok (.iinc 6 1, 3) := by decide +kernel
theorem dX12_many_129 : decode cX12_many 129 = .ok (.goto (-49), 3) := by decide +kernel
theorem dX12_many_132 : decode cX12_many 132 = .ok (.aload_n 0, 1) := by decide +kernel
theorem dX12_many_133 : decode cX12_many 133 = .ok (.getfield 105, 3) := by decide +kernel
theorem dX12_many_136 : decode cX12_many 136 = .ok (.iload 4, 2) := by decide +kernel
theorem dX12_many_138 : decode cX12_many 138 = .ok (.laload, 1) := by decide +kernel
theorem dX12_many_139 : decode cX12_many 139 = .ok (.lreturn, 1) := by decide +kernel
theorem dX12_stray_0 : decode cX12_stray 0 = .ok (.iload_n 1, 1) := by decide +kernel
theorem dX12_stray_1 : decode cX12_stray 1 = .ok (.iconst 1, 1) := by decide +kernel
theorem dX12_stray_2 : decode cX12_stray 2 = .ok (.bipush 40, 2) := by decide +kernel
theorem dX12_stray_4 : decode cX12_stray 4 = .ok (.invokestatic 120, 3) := by decide +kernel
theorem dX12_stray_7 : decode cX12_stray 7 = .ok (.istore_n 3, 1) := by decide +kernel
theorem dX12_stray_8 : decode cX12_stray 8 = .ok (.iload_n 3, 1) := by decide +kernel
theorem dX12_stray_9 : decode cX12_stray 9 = .ok (.ifCond .eq 9, 3) := by decide +kernel
theorem dX12_stray_12 : decode cX12_stray 12 = .ok (.aload_n 0, 1) := by decide +kernel
theorem dX12_stray_13 : decode cX12_stray 13 = .ok (.iload_n 3, 1) := by decide +kernel
theorem dX12_stray_14 : decode cX12_stray 14 = .ok (.invokevirtual 127, 3) := by decide +kernel
theorem dX12_stray_17 : decode cX12_stray 17 = .ok (.ireturn, 1) := by decide +kernel
theorem dX12_stray_18 : decode cX12_stray 18 = .ok (.aload_n 0, 1) := by decide +kernel
theorem dX12_stray_19 : decode cX12_stray 19 = .ok (.invokevirtual 215, 3) := by decide +kernel
theorem dX12_stray_22 : decode cX12_stray 22 = .ok (.aload_n 0, 1) := by decide +kernel
theorem dX12_stray_23 : decode cX12_stray 23 = .ok (.iconst 1, 1) := by decide +kernel
theorem dX12_stray_24 : decode cX12_stray 24 = .ok (.iconst 1, 1) := by decide +kernel
theorem dX12_stray_25 : decode cX12_stray 25 = .ok (.invokevirtual 188, 3) := by decide +kernel
theorem dX12_stray_28 : decode cX12_stray 28 = .ok (.aload_n 0, 1) := by decide +kernel
theorem dX12_stray_29 : decode cX12_stray 29 = .ok (.aload_n 0, 1) := by decide +kernel
theorem dX12_stray_30 : decode cX12_stray 30 = .ok (.getfield 34, 3) := by decide +kernel
theorem dX12_stray_33 : decode cX12_stray 33 = .ok (.iconst 3, 1) := by decide +kernel
theorem dX12_stray_34 : decode cX12_stray 34 = .ok (.iaload, 1) := by decide +kernel
theorem dX12_stray_35 : decode cX12_stray 35 = .ok (.invokevirtual 242, 3) := by decide +kernel
theorem dX12_stray_38 : decode cX12_stray 38 = .ok (.aload_n 0, 1) := by decide +kernel
theorem dX12_stray_39 : decode cX12_stray 39 = .ok (.iconst 0, 1) := by decide +kernel
theorem dX12_stray_40 : decode cX12_stray 40 = .ok (.invokevirtual 250, 3) := by decide +kernel
theorem dX12_stray_43 : decode cX12_stray 43 = .ok (.iload_n 2, 1) := by decide +kernel
theorem dX12_stray_44 : decode cX12_stray 44 = .ok (.istore 4, 2) := by decide +kernel
theorem dX12_stray_46 : decode cX12_stray 46 = .ok (.iconst 0, 1) := by decide +kernel
theorem dX12_stray_47 : decode cX12_stray 47 = .ok (.istore 5, 2) := by decide +kernel
theorem dX12_stray_49 : decode cX12_stray 49 = .ok (.iload 5, 2) := by decide +kernel
theorem dX12_stray_51 : decode cX12_stray 51 = .ok (.iload_n 1, 1) := by decide +kernel
theorem dX12_stray_52 : decode cX12_stray 52 = .ok (.if_icmp .ge 58, 3) := by decide +kernel
theorem dX12_stray_55 : decode cX12_stray 55 = .ok (.iload 4, 2) := by decide +kernel
theorem dX12_stray_57 : decode cX12_stray 57 = .ok (.ldc_w 291, 3) := by decide +kernel
theorem dX12_stray_60 : decode cX12_stray 60 = .ok (.imul, 1) := by decide +kernel
theorem dX12_stray_61 : decode cX12_stray 61 = .ok (.ldc_w 292, 3) := by decide +kernel
theorem dX12_stray_64 : decode cX12_stray 64 = .ok (.iadd, 1) := by decide +kernel
theorem dX12_stray_65 : decode cX12_stray 65 = .ok (.istore 4, 2) := by decide +kernel
theorem dX12_stray_67 : decode cX12_stray 67 = .ok (.iload 4, 2) := by decide +kernel
theorem dX12_stray_69 : decode cX12_stray 69 = .ok (.ldc_w 293, 3) := by decide +kernel
theorem dX12_stray_72 : decode cX12_stray 72 = .ok (.iand, 1) := by decide +kernel
theorem dX12_stray_73 : decode cX12_stray 73 = .ok (.sipush 256, 3) := by decide +kernel
theorem dX12_stray_76 : decode cX12_stray 76 = .ok (.idiv, 1) := by decide +kernel
theorem dX12_stray_77 : decode cX12_stray 77 = .ok (.aload_n 0, 1) := by decide +kernel
theorem dX12_stray_78 : decode cX12_stray 78 = .ok (.getfield 52, 3) := by decide +kernel
theorem dX12_stray_81 : decode cX12_stray 81 = .ok (.irem, 1) := by decide +kernel
theorem dX12_stray_82 : decode cX12_stray 82 = .ok (.istore 6, 2) := by decide +kernel
theorem dX12_stray_84 : decode cX12_stray 84 = .ok (.aload_n 0, 1) := by decide +kernel
theorem dX12_stray_85 : decode cX12_stray 85 = .ok (.iload 6, 2) := by decide +kernel
theorem dX12_stray_87 : decode cX12_stray 87 = .ok (.invokevirtual 229, 3) := by decide +kernel
theorem dX12_stray_90 : decode cX12_stray 90 = .ok (.ifCond .eq 9, 3) := by decide +kernel
theorem dX12_stray_93 : decode cX12_stray 93 = .ok (.aload_n 0, 1) := by decide +kernel
theorem dX12_stray_94 : decode cX12_stray 94 = .ok (.iload 6, 2) := by decide +kernel
theorem dX12_stray_96 : decode cX12_stray 96 = .ok (.invokevirtual 232, 3) := by decide +kernel
theorem dX12_stray_99 : decode cX12_stray 99 = .ok (.aload_n 0, 1) := by decide +kernel
theorem dX12_stray_100 : decode cX12_stray 100 = .ok (.iconst 0, 1) := by decide +kernel
theorem dX12_stray_101 : decode cX12_stray 101 = .ok (.invokevirtual 250, 3) := by decide +kernel
theorem dX12_stray_104 : decode cX12_stray 104 = .ok (.iinc 5 1, 3) := by decide +kernel
theorem dX12_stray_107 : decode cX12_stray 107 = .ok (.goto (-58), 3) := by decide +kernel
theorem dX12_stray_110 : decode cX12_stray 110 = .ok (.aload_n 0, 1) := by decide +kernel
theorem dX12_stray_111 : decode cX12_stray 111 = .ok (.getfield 212, 3) := by decide +kernel
theorem dX12_stray_114 : decode cX12_stray 114 = .ok (.istore 5, 2) := by decide +kernel
theorem dX12_stray_116 : decode cX12_stray 116 = .ok (.aload_n 0, 1) := by decide +kernel
theorem dX12_stray_117 : decode cX12_stray 117 = .ok (.iconst 1, 1) := by decide +kernel
theorem dX12_stray_118 : decode cX12_stray 118 = .ok (.iconst 0, 1) := by decide +kernel
theorem dX12_stray_119 : decode cX12_stray 119 = .ok (.invokevirtual 188, 3) := by decide +kernel
theorem dX12_stray_122 : decode cX12_stray 122 = .ok (.iload 5, 2) := by decide +kernel
theorem dX12_stray_124 : decode cX12_stray 124 = .ok (.ireturn, 1) := by decide +kernel
theorem dX12_row_0 : decode cX12_row 0 = .ok (.iload_n 1, 1) := by decide +kernel
theorem dX12_row_1 : decode cX12_row 1 = .ok (.iconst 0, 1) := by decide +kernel
theorem dX12_row_2 : decode cX12_row 2 = .ok (.bipush 9, 2) := by decide +kernel
theorem dX12_row_4 : decode cX12_row 4 = .ok (.invokestatic 120, 3) := by decide +kernel
theorem dX12_row_7 : decode cX12_row 7 = .ok (.istore_n 2, 1) := by decide +kernel
theorem dX12_row_8 : decode cX12_row 8 = .ok (.iload_n 2, 1) := by decide +kernel
theorem dX12_row_9 : decode cX12_row 9 = .ok (.ifCond .ne 15, 3) := by decide +kernel
theorem dX12_row_12 : decode cX12_row 12 = .ok (.aload_n 0, 1) := by decide +kernel
theorem dX12_row_13 : decode cX12_row 13 = .ok (.getfield 294, 3) := by decide +kernel
theorem dX12_row_16 : decode cX12_row 16 = .ok (.bipush 10, 2) := by decide +kernel
theorem dX12_row_18 : decode cX12_row 18 = .ok (.if_icmp .ne 6, 3) := by decide +kernel
theorem dX12_row_21 : decode cX12_row 21 = .ok (.bipush (-6), 2) := by decide +kernel
theorem dX12_row_23 : decode cX12_row 23 = .ok (.istore_n 2, 1) := by decide +kernel
theorem dX12_row_24 : decode cX12_row 24 = .ok (.iload_n 2, 1) := by decide +kernel
theorem dX12_row_25 : decode cX12_row 25 = .ok (.ifCond .eq 9, 3) := by decide +kernel
theorem dX12_row_28 : decode cX12_row 28 = .ok (.aload_n 0, 1) := by decide +kernel
theorem dX12_row_29 : decode cX12_row 29 = .ok (.iload_n 2, 1) := by decide +kernel
theorem dX12_row_30 : decode cX12_row 30 = .ok (.invokevirtual 127, 3) := by decide +kernel
theorem dX12_row_33 : decode cX12_row 33 = .ok (.ireturn, 1) := by decide +kernel
theorem dX12_row_34 : decode cX12_row 34 = .ok (.aload_n 0, 1) := by decide +kernel
theorem dX12_row_35 : decode cX12_row 35 = .ok (.getfield 108, 3) := by decide +kernel
theorem dX12_row_38 : decode cX12_row 38 = .ok (.aload_n 0, 1) := by decide +kernel
theorem dX12_row_39 : decode cX12_row 39 = .ok (.getfield 294, 3) := by decide +kernel
theorem dX12_row_42 : decode cX12_row 42 = .ok (.iload_n 1, 1) := by decide +kernel
theorem dX12_row_43 : decode cX12_row 43 = .ok (.iastore, 1) := by decide +kernel
theorem dX12_row_44 : decode cX12_row 44 = .ok (.aload_n 0, 1) := by decide +kernel
theorem dX12_row_45 : decode cX12_row 45 = .ok (.dup, 1) := by decide +kernel
theorem dX12_row_46 : decode cX12_row 46 = .ok (.getfield 294, 3) := by decide +kernel
theorem dX12_row_49 : decode cX12_row 49 = .ok (.iconst 1, 1) := by decide +kernel
theorem dX12_row_50 : decode cX12_row 50 = .ok (.iadd, 1) := by decide +kernel
theorem dX12_row_51 : decode cX12_row 51 = .ok (.putfield 294, 3) := by decide +kernel
theorem dX12_row_54 : decode cX12_row 54 = .ok (.aload_n 0, 1) := by decide +kernel
theorem dX12_row_55 : decode cX12_row 55 = .ok (.getfield 294, 3) := by decide +kernel
theorem dX12_row_58 : decode cX12_row 58 = .ok (.ireturn, 1) := by decide +kernel
theorem dX12_judge_0 : decode cX12_judge 0 = .ok (.iload_n 1, 1) := by decide +kernel
theorem dX12_judge_1 : decode cX12_judge 1 = .ok (.iconst 0, 1) := by decide +kernel
theorem dX12_judge_2 : decode cX12_judge 2 = .ok (.iconst 1, 1) := by decide +kernel
theorem dX12_judge_3 : decode cX12_judge 3 = .ok (.invokestatic 140, 3) := by decide +kernel
theorem dX12_judge_6 : decode cX12_judge 6 = .ok (.ifCond .ne 10, 3) := by decide +kernel
theorem dX12_judge_9 : decode cX12_judge 9 = .ok (.aload_n 0, 1) := by decide +kernel
theorem dX12_judge_10 : decode cX12_judge 10 = .ok (.bipush (-2), 2) := by decide +kernel
theorem dX12_judge_12 : decode cX12_judge 12 = .ok (.invokevirtual 127, 3) := by decide +kernel
theorem dX12_judge_15 : decode cX12_judge 15 = .ok (.ireturn, 1) := by decide +kernel
theorem dX12_judge_16 : decode cX12_judge 16 = .ok (.aload_n 0, 1) := by decide +kernel
theorem dX12_judge_17 : decode cX12_judge 17 = .ok (.invokevirtual 215, 3) := by decide +kernel
theorem dX12_judge_20 : decode cX12_judge 20 = .ok (.aload_n 0, 1) := by decide +kernel
theorem dX12_judge_21 : decode cX12_judge 21 = .ok (.getfield 294, 3) := by decide +kernel
theorem dX12_judge_24 : decode cX12_judge 24 = .ok (.istore_n 2, 1) := by decide +kernel
theorem dX12_judge_25 : decode cX12_judge 25 = .ok (.aload_n 0, 1) := by decide +kernel
theorem dX12_judge_26 : decode cX12_judge 26 = .ok (.iconst 0, 1) := by decide +kernel
theorem dX12_judge_27 : decode cX12_judge 27 = .ok (.putfield 294, 3) := by decide +kernel
theorem dX12_judge_30 : decode cX12_judge 30 = .ok (.aload_n 0, 1) := by decide +kernel
theorem dX12_judge_31 : decode cX12_judge 31 = .ok (.getfield 34, 3) := by decide +kernel
theorem dX12_judge_34 : decode cX12_judge 34 = .ok (.iconst 3, 1) := by decide +kernel
theorem dX12_judge_35 : decode cX12_judge 35 = .ok (.iaload, 1) := by decide +kernel
theorem dX12_judge_36 : decode cX12_judge 36 = .ok (.istore_n 3, 1) := by decide +kernel
theorem dX12_judge_37 : decode cX12_judge 37 = .ok (.iconst 0, 1) := by decide +kernel
theorem dX12_judge_38 : decode cX12_judge 38 = .ok (.istore 4, 2) := by decide +kernel
theorem dX12_judge_40 : decode cX12_judge 40 = .ok (.iconst 0, 1) := by decide +kernel
theorem dX12_judge_41 : decode cX12_judge 41 = .ok (.istore 5, 2) := by decide +kernel
theorem dX12_judge_43 : decode cX12_judge 43 = .ok (.iload 5, 2) := by decide +kernel
theorem dX12_judge_45 : decode cX12_judge 45 = .ok (.iload_n 2, 1) := by decide +kernel
theorem dX12_judge_46 : decode cX12_judge 46 = .ok (.if_icmp .ge 103, 3) := by decide +kernel
theorem dX12_judge_49 : decode cX12_judge 49 = .ok (.aload_n 0, 1) := by decide +kernel
theorem dX12_judge_50 : decode cX12_judge 50 = .ok (.aload_n 0, 1) := by decide +kernel
theorem dX12_judge_51 : decode cX12_judge 51 = .ok (.getfield 108, 3) := by decide +kernel
theorem dX12_judge_54 : decode cX12_judge 54 = .ok (.iload 5, 2) := by decide +kernel
theorem dX12_judge_56 : decode cX12_judge 56 = .ok (.iaload, 1) := by decide +kernel
theorem dX12_judge_57 : decode cX12_judge 57 = .ok (.invokevirtual 172, 3) := by decide +kernel
theorem dX12_judge_60 : decode cX12_judge 60 = .ok (.ifCond .eq 27, 3) := by decide +kernel
theorem dX12_judge_63 : decode cX12_judge 63 = .ok (.iload 4, 2) := by decide +kernel
theorem dX12_judge_65 : decode cX12_judge 65 = .ok (.aload_n 0, 1) := by decide +kernel
theorem dX12_judge_66 : decode cX12_judge 66 = .ok (.iload_n 3, 1) := by decide +kernel
theorem dX12_judge_67 : decode cX12_judge 67 = .ok (.aload_n 0, 1) := by decide +kernel
theorem dX12_judge_68 : decode cX12_judge 68 = .ok (.getfield 108, 3) := by decide +kernel
theorem dX12_judge_71 : decode cX12_judge 71 = .ok (.iload 5, 2) := by decide +kernel
theorem dX12_judge_73 : decode cX12_judge 73 = .ok (.iaload, 1) := by decide +kernel
theorem dX12_judge_74 : decode cX12_judge 74 = .ok (.invokevirtual 218, 3) := by decide +kernel
theorem dX12_judge_77 : decode cX12_judge 77 = .ok (.iadd, 1) := by decide +kernel
theorem dX12_judge_78 : decode cX12_judge 78 = .ok (.aload_n 0, 1) := by decide +kernel
theorem dX12_judge_79 : decode cX12_judge 79 = .ok (.getfield 34, 3) := by decide +kernel
theorem dX12_judge_82 : decode cX12_judge 82 = .ok (.iconst 2, 1) := by decide +kernel
theorem dX12_judge_83 : decode cX12_judge 83 = .ok (.iaload, 1) := by decide +kernel
theorem dX12_judge_84 : decode cX12_judge 84 = .ok (.if_icmp .le 15, 3) := by decide +kernel
theorem dX12_judge_87 : decode cX12_judge 87 = .ok (.iload_n 1, 1) := by decide +kernel
theorem dX12_judge_88 : decode cX12_judge 88 = .ok (.ifCond .ne 8, 3) := by decide +kernel
theorem dX12_judge_91 : decode cX12_judge 91 = .ok (.iload 5, 2) := by decide +kernel
theorem dX12_judge_93 : decode cX12_judge 93 = .ok (.goto 5, 3) := by decide +kernel
theorem dX12_judge_96 : decode cX12_judge 96 = .ok (.bipush (-9), 2) := by decide +kernel
theorem dX12_judge_98 : decode cX12_judge 98 = .ok (.ireturn, 1) := by decide +kernel
theorem dX12_judge_99 : decode cX12_judge 99 = .ok (.iload 4, 2) := by decide +kernel
theorem dX12_judge_101 : decode cX12_judge 101 = .ok (.aload_n 0, 1) := by decide +kernel
theorem dX12_judge_102 : decode cX12_judge 102 = .ok (.iload_n 3, 1) := by decide +kernel
theorem dX12_judge_103 : decode cX12_judge 103 = .ok (.aload_n 0, 1) := by decide +kernel
theorem dX12_judge_104 : decode cX12_judge 104 = .ok (.getfield 108, 3) := by decide +kernel
theorem dX12_judge_107 : decode cX12_judge 107 = .ok (.iload 5, 2) := by decide +kernel
theorem dX12_judge_109 : decode cX12_judge 109 = .ok (.iaload, 1) := by decide +kernel
theorem dX12_judge_110 : decode cX12_judge 110 = .ok (.invokevirtual 218, 3) := by decide +kernel
theorem dX12_judge_113 : decode cX12_judge 113 = .ok (.iadd, 1) := by decide +kernel
theorem dX12_judge_114 : decode cX12_judge 114 = .ok (.istore 4, 2) := by decide +kernel
theorem dX12_judge_116 : decode cX12_judge 116 = .ok (.aload_n 0, 1) := by decide +kernel
theorem dX12_judge_117 : decode cX12_judge 117 = .ok (.getfield 108, 3) := by decide +kernel
theorem dX12_judge_120 : decode cX12_judge 120 = .ok (.iload 5, 2) := by decide +kernel
theorem dX12_judge_122 : decode cX12_judge 122 = .ok (.iaload, 1) := by decide +kernel
theorem dX12_judge_123 : decode cX12_judge 123 = .ok (.istore_n 3, 1) := by decide +kernel
theorem dX12_judge_124 : decode cX12_judge 124 = .ok (.iload_n 1, 1) := by decide +kernel
theorem dX12_judge_125 : decode cX12_judge 125 = .ok (.iconst 1, 1) := by decide +kernel
theorem dX12_judge_126 : decode cX12_judge 126 = .ok (.if_icmp .ne 17, 3) := by decide +kernel
theorem dX12_judge_129 : decode cX12_judge 129 = .ok (.iload 4, 2) := by decide +kernel
theorem dX12_judge_131 : decode cX12_judge 131 = .ok (.aload_n 0, 1) := by decide +kernel
theorem dX12_judge_132 : decode cX12_judge 132 = .ok (.getfield 34, 3) := by decide +kernel
theorem dX12_judge_135 : decode cX12_judge 135 = .ok (.iconst 1, 1) := by decide +kernel
theorem dX12_judge_136 : decode cX12_judge 136 = .ok (.iaload, 1) := by decide +kernel
theorem dX12_judge_137 : decode cX12_judge 137 = .ok (.if_icmp .lt 6, 3) := by decide +kernel
theorem dX12_judge_140 : decode cX12_judge 140 = .ok (.iload 5, 2) := by decide +kernel
theorem dX12_judge_142 : decode cX12_judge 142 = .ok (.ireturn, 1) := by decide +kernel
theorem dX12_judge_143 : decode cX12_judge 143 = .ok (.iinc 5 1, 3) := by decide +kernel
theorem dX12_judge_146 : decode cX12_judge 146 = .ok (.goto (-103), 3) := by decide +kernel
theorem dX12_judge_149 : decode cX12_judge 149 = .ok (.bipush (-9), 2) := by decide +kernel
theorem dX12_judge_151 : decode cX12_judge 151 = .ok (.ireturn, 1) := by decide +kernel
theorem dX12_image_0 : decode cX12_image 0 = .ok (.aload_n 0, 1) := by decide +kernel
theorem dX12_image_1 : decode cX12_image 1 = .ok (.iconst 1, 1) := by decide +kernel
theorem dX12_image_2 : decode cX12_image 2 = .ok (.putfield 297, 3) := by decide +kernel
theorem dX12_image_5 : decode cX12_image 5 = .ok (.aload_n 0, 1) := by decide +kernel
theorem dX12_image_6 : decode cX12_image 6 = .ok (.iconst 0, 1) := by decide +kernel
theorem dX12_image_7 : decode cX12_image 7 = .ok (.iconst 1, 1) := by decide +kernel
theorem dX12_image_8 : decode cX12_image 8 = .ok (.invokevirtual 188, 3) := by decide +kernel
theorem dX12_image_11 : decode cX12_image 11 = .ok (.aload_n 0, 1) := by decide +kernel
theorem dX12_image_12 : decode cX12_image 12 = .ok (.getfield 52, 3) := by decide +kernel
theorem dX12_image_15 : decode cX12_image 15 = .ok (.ireturn, 1) := by decide +kernel
theorem dX12_on_0 : decode cX12_on 0 = .ok (.aload_n 0, 1) := by decide +kernel
theorem dX12_on_1 : decode cX12_on 1 = .ok (.getfield 297, 3) := by decide +kernel
theorem dX12_on_4 : decode cX12_on 4 = .ok (.ifCond .ne 10, 3) := by decide +kernel
theorem dX12_on_7 : decode cX12_on 7 = .ok (.aload_n 0, 1) := by decide +kernel
theorem dX12_on_8 : decode cX12_on 8 = .ok (.bipush (-3), 2) := by decide +kernel
theorem dX12_on_10 : decode cX12_on 10 = .ok (.invokevirtual 127, 3) := by decide +kernel
theorem dX12_on_13 : decode cX12_on 13 = .ok (.ireturn, 1) := by decide +kernel
theorem dX12_on_14 : decode cX12_on 14 = .ok (.aload_n 0, 1) := by decide +kernel
theorem dX12_on_15 : decode cX12_on 15 = .ok (.iconst 0, 1) := by decide +kernel
theorem dX12_on_16 : decode cX12_on 16 = .ok (.iconst 0, 1) := by decide +kernel
theorem dX12_on_17 : decode cX12_on 17 = .ok (.invokevirtual 188, 3) := by decide +kernel
theorem dX12_on_20 : decode cX12_on 20 = .ok (.aload_n 0, 1) := by decide +kernel
theorem dX12_on_21 : decode cX12_on 21 = .ok (.getfield 52, 3) := by decide +kernel
theorem dX12_on_24 : decode cX12_on 24 = .ok (.ireturn, 1) := by decide +kernel
theorem dX12_count_0 : decode cX12_count 0 = .ok (.iload_n 1, 1) := by decide +kernel
theorem dX12_count_1 : decode cX12_count 1 = .ok (.bipush 11, 2) := by decide +kernel
theorem dX12_count_3 : decode cX12_count 3 = .ok (.bipush 16, 2) := by decide +kernel
theorem dX12_count_5 : decode cX12_count 5 = .ok (.invokestatic 140, 3) := by decide +kernel
theorem dX12_count_8 : decode cX12_count 8 = .ok (.ifCond .eq 13, 3) := by decide +kernel
theorem dX12_count_11 : decode cX12_count 11 = .ok (.aload_n 0, 1) := by decide +kernel
theorem dX12_count_12 : decode cX12_count 12 = .ok (.getfield 7, 3) := by decide +kernel
theorem dX12_count_15 : decode cX12_count 15 = .ok (.iload_n 1, 1) := by decide +kernel
theorem dX12_count_16 : decode cX12_count 16 = .ok (.bipush 10, 2) := by decide +kernel
theorem dX12_count_18 : decode cX12_count 18 = .ok (.isub, 1) := by decide +kernel
theorem dX12_count_19 : decode cX12_count 19 = .ok (.iaload, 1) := by decide +kernel
theorem dX12_count_20 : decode cX12_count 20 = .ok (.ireturn, 1) := by decide +kernel
theorem dX12_count_21 : decode cX12_count 21 = .ok (.iconst 0, 1) := by decide +kernel
theorem dX12_count_22 : decode cX12_count 22 = .ok (.istore_n 2, 1) := by decide +kernel
theorem dX12_count_23 : decode cX12_count 23 = .ok (.iload_n 1, 1) := by decide +kernel
theorem dX12_count_24 : decode cX12_count 24 = .ok (.tableswitch 119 0 8 #[52, 57, 62, 67, 72, 77, 82, 87, 92], 52) := by decide +kernel
theorem dX12_count_76 : decode cX12_count 76 = .ok (.aload_n 0, 1) := by decide +kernel
theorem dX12_count_77 : decode cX12_count 77 = .ok (.getfield 52, 3) := by decide +kernel
theorem dX12_count_80 : decode cX12_count 80 = .ok (.ireturn, 1) := by decide +kernel
theorem dX12_count_81 : decode cX12_count 81 = .ok (.aload_n 0, 1) := by decide +kernel
theorem dX12_count_82 : decode cX12_count 82 = .ok (.getfield 117, 3) := by decide +kernel
theorem dX12_count_85 : decode cX12_count 85 = .ok (.ireturn, 1) := by decide +kernel
theorem dX12_count_86 : decode cX12_count 86 = .ok (.aload_n 0, 1) := by decide +kernel
theorem dX12_count_87 : decode cX12_count 87 = .ok (.getfield 113, 3) := by decide +kernel
theorem dX12_count_90 : decode cX12_count 90 = .ok (.ireturn, 1) := by decide +kernel
theorem dX12_count_91 : decode cX12_count 91 = .ok (.aload_n 0, 1) := by decide +kernel
theorem dX12_count_92 : decode cX12_count 92 = .ok (.getfield 166, 3) := by decide +kernel
theorem dX12_count_95 : decode cX12_count 95 = .ok (.ireturn, 1) := by decide +kernel
theorem dX12_count_96 : decode cX12_count 96 = .ok (.aload_n 0, 1) := by decide +kernel
theorem dX12_count_97 : decode cX12_count 97 = .ok (.getfield 169, 3) := by decide +kernel
theorem dX12_count_100 : decode cX12_count 100 = .ok (.ireturn, 1) := by decide +kernel
theorem dX12_count_101 : decode cX12_count 101 = .ok (.aload_n 0, 1) := by decide +kernel
theorem dX12_count_102 : decode cX12_count 102 = .ok (.invokevirtual 270, 3) := by decide +kernel
theorem dX12_count_105 : decode cX12_count 105 = .ok (.ireturn, 1) := by decide +kernel
theorem dX12_count_106 : decode cX12_count 106 = .ok (.aload_n 0, 1) := by decide +kernel
theorem dX12_count_107 : decode cX12_count 107 = .ok (.getfield 294, 3) := by decide +kernel
theorem dX12_count_110 : decode cX12_count 110 = .ok (.ireturn, 1) := by decide +kernel
theorem dX12_count_111 : decode cX12_count 111 = .ok (.aload_n 0, 1) := by decide +kernel
theorem dX12_count_112 : decode cX12_count 112 = .ok (.getfield 124, 3) := by decide +kernel
theorem dX12_count_115 : decode cX12_count 115 = .ok (.ireturn, 1) := by decide +kernel
theorem dX12_count_116 : decode cX12_count 116 = .ok (.iconst 0, 1) := by decide +kernel
theorem dX12_count_117 : decode cX12_count 117 = .ok (.istore_n 3, 1) := by decide +kernel
theorem dX12_count_118 : decode cX12_count 118 = .ok (.iload_n 3, 1) := by decide +kernel
theorem dX12_count_119 : decode cX12_count 119 = .ok (.aload_n 0, 1) := by decide +kernel
theorem dX12_count_120 : decode cX12_count 120 = .ok (.getfield 113, 3) := by decide +kernel
theorem dX12_count_123 : decode cX12_count 123 = .ok (.if_icmp .ge 18, 3) := by decide +kernel
theorem dX12_count_126 : decode cX12_count 126 = .ok (.iload_n 2, 1) := by decide +kernel
theorem dX12_count_127 : decode cX12_count 127 = .ok (.aload_n 0, 1) := by decide +kernel
theorem dX12_count_128 : decode cX12_count 128 = .ok (.getfield 83, 3) := by decide +kernel
theorem dX12_count_131 : decode cX12_count 131 = .ok (.iload_n 3, 1) := by decide +kernel
theorem dX12_count_132 : decode cX12_count 132 = .ok (.iaload, 1) := by decide +kernel
theorem dX12_count_133 : decode cX12_count 133 = .ok (.iadd, 1) := by decide +kernel
theorem dX12_count_134 : decode cX12_count 134 = .ok (.istore_n 2, 1) := by decide +kernel
theorem dX12_count_135 : decode cX12_count 135 = .ok (.iinc 3 1, 3) := by decide +kernel
theorem dX12_count_138 : decode cX12_count 138 = .ok (.goto (-20), 3) := by decide +kernel
theorem dX12_count_141 : decode cX12_count 141 = .ok (.iload_n 2, 1) := by decide +kernel
theorem dX12_count_142 : decode cX12_count 142 = .ok (.ireturn, 1) := by decide +kernel
theorem dX12_count_143 : decode cX12_count 143 = .ok (.bipush (-9), 2) := by decide +kernel
theorem dX12_count_145 : decode cX12_count 145 = .ok (.ireturn, 1) := by decide +kernel
