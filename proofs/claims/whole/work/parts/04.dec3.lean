theorem dX11_init_0 : decode cX11_init 0 = .ok (.aload_n 0, 1) := by decide +kernel
theorem dX11_init_1 : decode cX11_init 1 = .ok (.invokespecial 1, 3) := by decide +kernel
theorem dX11_init_4 : decode cX11_init 4 = .ok (.aload_n 0, 1) := by decide +kernel
theorem dX11_init_5 : decode cX11_init 5 = .ok (.new 7, 3) := by decide +kernel
theorem dX11_init_8 : decode cX11_init 8 = .ok (.dup, 1) := by decide +kernel
theorem dX11_init_9 : decode cX11_init 9 = .ok (.invokespecial 9, 3) := by decide +kernel
theorem dX11_init_12 : decode cX11_init 12 = .ok (.putfield 10, 3) := by decide +kernel
theorem dX11_init_15 : decode cX11_init 15 = .ok (.aload_n 0, 1) := by decide +kernel
theorem dX11_init_16 : decode cX11_init 16 = .ok (.new 7, 3) := by decide +kernel
theorem dX11_init_19 : decode cX11_init 19 = .ok (.dup, 1) := by decide +kernel
theorem dX11_init_20 : decode cX11_init 20 = .ok (.invokespecial 9, 3) := by decide +kernel
theorem dX11_init_23 : decode cX11_init 23 = .ok (.putfield 16, 3) := by decide +kernel
theorem dX11_init_26 : decode cX11_init 26 = .ok (.aload_n 0, 1) := by decide +kernel
theorem dX11_init_27 : decode cX11_init 27 = .ok (.new 7, 3) := by decide +kernel
theorem dX11_init_30 : decode cX11_init 30 = .ok (.dup, 1) := by decide +kernel
theorem dX11_init_31 : decode cX11_init 31 = .ok (.invokespecial 9, 3) := by decide +kernel
theorem dX11_init_34 : decode cX11_init 34 = .ok (.putfield 19, 3) := by decide +kernel
theorem dX11_init_37 : decode cX11_init 37 = .ok (.aload_n 0, 1) := by decide +kernel
theorem dX11_init_38 : decode cX11_init 38 = .ok (.iconst 0, 1) := by decide +kernel
theorem dX11_init_39 : decode cX11_init 39 = .ok (.putfield 22, 3) := by decide +kernel
theorem dX11_init_42 : decode cX11_init 42 = .ok (.aload_n 0, 1) := by decide +kernel
theorem dX11_init_43 : decode cX11_init 43 = .ok (.new 26, 3) := by decide +kernel
theorem dX11_init_46 : decode cX11_init 46 = .ok (.dup, 1) := by decide +kernel
theorem dX11_init_47 : decode cX11_init 47 = .ok (.invokespecial 28, 3) := by decide +kernel
theorem dX11_init_50 : decode cX11_init 50 = .ok (.putfield 29, 3) := by decide +kernel
theorem dX11_init_53 : decode cX11_init 53 = .ok (.aload_n 0, 1) := by decide +kernel
theorem dX11_init_54 : decode cX11_init 54 = .ok (.new 33, 3) := by decide +kernel
theorem dX11_init_57 : decode cX11_init 57 = .ok (.dup, 1) := by decide +kernel
theorem dX11_init_58 : decode cX11_init 58 = .ok (.invokespecial 35, 3) := by decide +kernel
theorem dX11_init_61 : decode cX11_init 61 = .ok (.putfield 36, 3) := by decide +kernel
theorem dX11_init_64 : decode cX11_init 64 = .ok (.aload_n 0, 1) := by decide +kernel
theorem dX11_init_65 : decode cX11_init 65 = .ok (.bipush 64, 2) := by decide +kernel
theorem dX11_init_67 : decode cX11_init 67 = .ok (.newarray .int, 2) := by decide +kernel
theorem dX11_init_69 : decode cX11_init 69 = .ok (.putfield 40, 3) := by decide +kernel
theorem dX11_init_72 : decode cX11_init 72 = .ok (.aload_n 0, 1) := by decide +kernel
theorem dX11_init_73 : decode cX11_init 73 = .ok (.iconst 0, 1) := by decide +kernel
theorem dX11_init_74 : decode cX11_init 74 = .ok (.putfield 44, 3) := by decide +kernel
theorem dX11_init_77 : decode cX11_init 77 = .ok (.aload_n 0, 1) := by decide +kernel
theorem dX11_init_78 : decode cX11_init 78 = .ok (.bipush 10, 2) := by decide +kernel
theorem dX11_init_80 : decode cX11_init 80 = .ok (.newarray .int, 2) := by decide +kernel
theorem dX11_init_82 : decode cX11_init 82 = .ok (.putfield 48, 3) := by decide +kernel
theorem dX11_init_85 : decode cX11_init 85 = .ok (.aload_n 0, 1) := by decide +kernel
theorem dX11_init_86 : decode cX11_init 86 = .ok (.iconst 0, 1) := by decide +kernel
theorem dX11_init_87 : decode cX11_init 87 = .ok (.putfield 51, 3) := by decide +kernel
theorem dX11_init_90 : decode cX11_init 90 = .ok (.aload_n 0, 1) := by decide +kernel
theorem dX11_init_91 : decode cX11_init 91 = .ok (.sipush 500, 3) := by decide +kernel
theorem dX11_init_94 : decode cX11_init 94 = .ok (.newarray .long, 2) := by decide +kernel
theorem dX11_init_96 : decode cX11_init 96 = .ok (.putfield 54, 3) := by decide +kernel
theorem dX11_init_99 : decode cX11_init 99 = .ok (.aload_n 0, 1) := by decide +kernel
theorem dX11_init_100 : decode cX11_init 100 = .ok (.bipush 16, 2) := by decide +kernel
theorem dX11_init_102 : decode cX11_init 102 = .ok (.newarray .long, 2) := by decide +kernel
theorem dX11_init_104 : decode cX11_init 104 = .ok (.putfield 58, 3) := by decide +kernel
theorem dX11_init_107 : decode cX11_init 107 = .ok (.aload_n 0, 1) := by decide +kernel
theorem dX11_init_108 : decode cX11_init 108 = .ok (.bipush 7, 2) := by decide +kernel
theorem dX11_init_110 : decode cX11_init 110 = .ok (.newarray .int, 2) := by decide +kernel
theorem dX11_init_112 : decode cX11_init 112 = .ok (.putfield 61, 3) := by decide +kernel
theorem dX11_init_115 : decode cX11_init 115 = .ok (.return_, 1) := by decide +kernel
theorem dX11_feed_0 : decode cX11_feed 0 = .ok (.iload_n 1, 1) := by decide +kernel
theorem dX11_feed_1 : decode cX11_feed 1 = .ok (.iconst 1, 1) := by decide +kernel
theorem dX11_feed_2 : decode cX11_feed 2 = .ok (.if_icmp .ge 10, 3) := by decide +kernel
theorem dX11_feed_5 : decode cX11_feed 5 = .ok (.aload_n 0, 1) := by decide +kernel
theorem dX11_feed_6 : decode cX11_feed 6 = .ok (.bipush (-4), 2) := by decide +kernel
theorem dX11_feed_8 : decode cX11_feed 8 = .ok (.invokevirtual 64, 3) := by decide +kernel
theorem dX11_feed_11 : decode cX11_feed 11 = .ok (.ireturn, 1) := by decide +kernel
theorem dX11_feed_12 : decode cX11_feed 12 = .ok (.iload_n 1, 1) := by decide +kernel
theorem dX11_feed_13 : decode cX11_feed 13 = .ok (.bipush 8, 2) := by decide +kernel
theorem dX11_feed_15 : decode cX11_feed 15 = .ok (.if_icmp .gt 14, 3) := by decide +kernel
theorem dX11_feed_18 : decode cX11_feed 18 = .ok (.aload_n 0, 1) := by decide +kernel
theorem dX11_feed_19 : decode cX11_feed 19 = .ok (.getfield 44, 3) := by decide +kernel
theorem dX11_feed_22 : decode cX11_feed 22 = .ok (.iload_n 1, 1) := by decide +kernel
theorem dX11_feed_23 : decode cX11_feed 23 = .ok (.iadd, 1) := by decide +kernel
theorem dX11_feed_24 : decode cX11_feed 24 = .ok (.bipush 64, 2) := by decide +kernel
theorem dX11_feed_26 : decode cX11_feed 26 = .ok (.if_icmp .le 10, 3) := by decide +kernel
theorem dX11_feed_29 : decode cX11_feed 29 = .ok (.aload_n 0, 1) := by decide +kernel
theorem dX11_feed_30 : decode cX11_feed 30 = .ok (.bipush (-6), 2) := by decide +kernel
theorem dX11_feed_32 : decode cX11_feed 32 = .ok (.invokevirtual 64, 3) := by decide +kernel
theorem dX11_feed_35 : decode cX11_feed 35 = .ok (.ireturn, 1) := by decide +kernel
theorem dX11_feed_36 : decode cX11_feed 36 = .ok (.iconst 0, 1) := by decide +kernel
theorem dX11_feed_37 : decode cX11_feed 37 = .ok (.istore 4, 2) := by decide +kernel
theorem dX11_feed_39 : decode cX11_feed 39 = .ok (.iload 4, 2) := by decide +kernel
theorem dX11_feed_41 : decode cX11_feed 41 = .ok (.iload_n 1, 1) := by decide +kernel
theorem dX11_feed_42 : decode cX11_feed 42 = .ok (.if_icmp .ge 33, 3) := by decide +kernel
theorem dX11_feed_45 : decode cX11_feed 45 = .ok (.aload_n 0, 1) := by decide +kernel
theorem dX11_feed_46 : decode cX11_feed 46 = .ok (.getfield 40, 3) := by decide +kernel
theorem dX11_feed_49 : decode cX11_feed 49 = .ok (.aload_n 0, 1) := by decide +kernel
theorem dX11_feed_50 : decode cX11_feed 50 = .ok (.getfield 44, 3) := by decide +kernel
theorem dX11_feed_53 : decode cX11_feed 53 = .ok (.iload 4, 2) := by decide +kernel
theorem dX11_feed_55 : decode cX11_feed 55 = .ok (.iadd, 1) := by decide +kernel
theorem dX11_feed_56 : decode cX11_feed 56 = .ok (.lload_n 2, 1) := by decide +kernel
theorem dX11_feed_57 : decode cX11_feed 57 = .ok (.bipush 8, 2) := by decide +kernel
theorem dX11_feed_59 : decode cX11_feed 59 = .ok (.iload 4, 2) := by decide +kernel
theorem dX11_feed_61 : decode cX11_feed 61 = .ok (.imul, 1) := by decide +kernel
theorem dX11_feed_62 : decode cX11_feed 62 = .ok (.lushr, 1) := by decide +kernel
theorem dX11_feed_63 : decode cX11_feed 63 = .ok (.l2i, 1) := by decide +kernel
theorem dX11_feed_64 : decode cX11_feed 64 = .ok (.sipush 255, 3) := by decide +kernel
theorem dX11_feed_67 : decode cX11_feed 67 = .ok (.iand, 1) := by decide +kernel
theorem dX11_feed_68 : decode cX11_feed 68 = .ok (.iastore, 1) := by decide +kernel
theorem dX11_feed_69 : decode cX11_feed 69 = .ok (.iinc 4 1, 3) := by decide +kernel
theorem dX11_feed_72 : decode cX11_feed 72 = .ok (.goto (-33), 3) := by decide +kernel
theorem dX11_feed_75 : decode cX11_feed 75 = .ok (.aload_n 0, 1) := by decide +kernel
theorem dX11_feed_76 : decode cX11_feed 76 = .ok (.dup, 1) := by decide +kernel
theorem dX11_feed_77 : decode cX11_feed 77 = .ok (.getfield 44, 3) := by decide +kernel
theorem dX11_feed_80 : decode cX11_feed 80 = .ok (.iload_n 1, 1) := by decide +kernel
theorem dX11_feed_81 : decode cX11_feed 81 = .ok (.iadd, 1) := by decide +kernel
theorem dX11_feed_82 : decode cX11_feed 82 = .ok (.putfield 44, 3) := by decide +kernel
theorem dX11_feed_85 : decode cX11_feed 85 = .ok (.aload_n 0, 1) := by decide +kernel
theorem dX11_feed_86 : decode cX11_feed 86 = .ok (.getfield 44, 3) := by decide +kernel
theorem dX11_feed_89 : decode cX11_feed 89 = .ok (.ireturn, 1) := by decide +kernel
theorem dX11_land_0 : decode cX11_land 0 = .ok (.aload_n 0, 1) := by decide +kernel
theorem dX11_land_1 : decode cX11_land 1 = .ok (.getfield 16, 3) := by decide +kernel
theorem dX11_land_4 : decode cX11_land 4 = .ok (.aload_n 0, 1) := by decide +kernel
theorem dX11_land_5 : decode cX11_land 5 = .ok (.getfield 10, 3) := by decide +kernel
theorem dX11_land_8 : decode cX11_land 8 = .ok (.invokevirtual 68, 3) := by decide +kernel
theorem dX11_land_11 : decode cX11_land 11 = .ok (.aload_n 0, 1) := by decide +kernel
theorem dX11_land_12 : decode cX11_land 12 = .ok (.getfield 29, 3) := by decide +kernel
theorem dX11_land_15 : decode cX11_land 15 = .ok (.aload_n 0, 1) := by decide +kernel
theorem dX11_land_16 : decode cX11_land 16 = .ok (.getfield 40, 3) := by decide +kernel
theorem dX11_land_19 : decode cX11_land 19 = .ok (.aload_n 0, 1) := by decide +kernel
theorem dX11_land_20 : decode cX11_land 20 = .ok (.getfield 44, 3) := by decide +kernel
theorem dX11_land_23 : decode cX11_land 23 = .ok (.aload_n 0, 1) := by decide +kernel
theorem dX11_land_24 : decode cX11_land 24 = .ok (.getfield 16, 3) := by decide +kernel
theorem dX11_land_27 : decode cX11_land 27 = .ok (.invokevirtual 72, 3) := by decide +kernel
theorem dX11_land_30 : decode cX11_land 30 = .ok (.istore_n 1, 1) := by decide +kernel
theorem dX11_land_31 : decode cX11_land 31 = .ok (.aload_n 0, 1) := by decide +kernel
theorem dX11_land_32 : decode cX11_land 32 = .ok (.iconst 0, 1) := by decide +kernel
theorem dX11_land_33 : decode cX11_land 33 = .ok (.putfield 44, 3) := by decide +kernel
theorem dX11_land_36 : decode cX11_land 36 = .ok (.iload_n 1, 1) := by decide +kernel
theorem dX11_land_37 : decode cX11_land 37 = .ok (.ifCond .le 28, 3) := by decide +kernel
theorem dX11_land_40 : decode cX11_land 40 = .ok (.aload_n 0, 1) := by decide +kernel
theorem dX11_land_41 : decode cX11_land 41 = .ok (.getfield 16, 3) := by decide +kernel
theorem dX11_land_44 : decode cX11_land 44 = .ok (.invokevirtual 76, 3) := by decide +kernel
theorem dX11_land_47 : decode cX11_land 47 = .ok (.aload_n 0, 1) := by decide +kernel
theorem dX11_land_48 : decode cX11_land 48 = .ok (.getfield 10, 3) := by decide +kernel
theorem dX11_land_51 : decode cX11_land 51 = .ok (.astore_n 2, 1) := by decide +kernel
theorem dX11_land_52 : decode cX11_land 52 = .ok (.aload_n 0, 1) := by decide +kernel
theorem dX11_land_53 : decode cX11_land 53 = .ok (.aload_n 0, 1) := by decide +kernel
theorem dX11_land_54 : decode cX11_land 54 = .ok (.getfield 16, 3) := by decide +kernel
theorem dX11_land_57 : decode cX11_land 57 = .ok (.putfield 10, 3) := by decide +kernel
theorem dX11_land_60 : decode cX11_land 60 = .ok (.aload_n 0, 1) := by decide +kernel
theorem dX11_land_61 : decode cX11_land 61 = .ok (.aload_n 2, 1) := by decide +kernel
theorem dX11_land_62 : decode cX11_land 62 = .ok (.putfield 16, 3) := by decide +kernel
theorem dX11_land_65 : decode cX11_land 65 = .ok (.iload_n 1, 1) := by decide +kernel
theorem dX11_land_66 : decode cX11_land 66 = .ok (.ireturn, 1) := by decide +kernel
theorem dX11_far_0 : decode cX11_far 0 = .ok (.aload_n 0, 1) := by decide +kernel
theorem dX11_far_1 : decode cX11_far 1 = .ok (.getfield 10, 3) := by decide +kernel
theorem dX11_far_4 : decode cX11_far 4 = .ok (.iload_n 1, 1) := by decide +kernel
theorem dX11_far_5 : decode cX11_far 5 = .ok (.invokevirtual 79, 3) := by decide +kernel
theorem dX11_far_8 : decode cX11_far 8 = .ok (.ifCond .eq 14, 3) := by decide +kernel
theorem dX11_far_11 : decode cX11_far 11 = .ok (.aload_n 0, 1) := by decide +kernel
theorem dX11_far_12 : decode cX11_far 12 = .ok (.getfield 10, 3) := by decide +kernel
theorem dX11_far_15 : decode cX11_far 15 = .ok (.iload_n 2, 1) := by decide +kernel
theorem dX11_far_16 : decode cX11_far 16 = .ok (.invokevirtual 79, 3) := by decide +kernel
theorem dX11_far_19 : decode cX11_far 19 = .ok (.ifCond .ne 9, 3) := by decide +kernel
theorem dX11_far_22 : decode cX11_far 22 = .ok (.aload_n 0, 1) := by decide +kernel
theorem dX11_far_23 : decode cX11_far 23 = .ok (.iconst (-1), 1) := by decide +kernel
theorem dX11_far_24 : decode cX11_far 24 = .ok (.invokevirtual 64, 3) := by decide +kernel
theorem dX11_far_27 : decode cX11_far 27 = .ok (.ireturn, 1) := by decide +kernel
theorem dX11_far_28 : decode cX11_far 28 = .ok (.aload_n 0, 1) := by decide +kernel
theorem dX11_far_29 : decode cX11_far 29 = .ok (.getfield 10, 3) := by decide +kernel
theorem dX11_far_32 : decode cX11_far 32 = .ok (.iload_n 1, 1) := by decide +kernel
theorem dX11_far_33 : decode cX11_far 33 = .ok (.iload_n 2, 1) := by decide +kernel
theorem dX11_far_34 : decode cX11_far 34 = .ok (.invokevirtual 83, 3) := by decide +kernel
theorem dX11_far_37 : decode cX11_far 37 = .ok (.istore_n 3, 1) := by decide +kernel
theorem dX11_far_38 : decode cX11_far 38 = .ok (.iload_n 3, 1) := by decide +kernel
theorem dX11_far_39 : decode cX11_far 39 = .ok (.ldc 87, 2) := by decide +kernel
theorem dX11_far_41 : decode cX11_far 41 = .ok (.if_icmp .ge 7, 3) := by decide +kernel
theorem dX11_far_44 : decode cX11_far 44 = .ok (.iload_n 3, 1) := by decide +kernel
theorem dX11_far_45 : decode cX11_far 45 = .ok (.goto 5, 3) := by decide +kernel
theorem dX11_far_48 : decode cX11_far 48 = .ok (.bipush (-9), 2) := by decide +kernel
theorem dX11_far_50 : decode cX11_far 50 = .ok (.ireturn, 1) := by decide +kernel
theorem dX11_thing_0 : decode cX11_thing 0 = .ok (.aload_n 0, 1) := by decide +kernel
theorem dX11_thing_1 : decode cX11_thing 1 = .ok (.getfield 10, 3) := by decide +kernel
theorem dX11_thing_4 : decode cX11_thing 4 = .ok (.iload_n 1, 1) := by decide +kernel
theorem dX11_thing_5 : decode cX11_thing 5 = .ok (.invokevirtual 88, 3) := by decide +kernel
theorem dX11_thing_8 : decode cX11_thing 8 = .ok (.ifCond .ne 9, 3) := by decide +kernel
theorem dX11_thing_11 : decode cX11_thing 11 = .ok (.aload_n 0, 1) := by decide +kernel
theorem dX11_thing_12 : decode cX11_thing 12 = .ok (.iconst (-1), 1) := by decide +kernel
theorem dX11_thing_13 : decode cX11_thing 13 = .ok (.invokevirtual 64, 3) := by decide +kernel
theorem dX11_thing_16 : decode cX11_thing 16 = .ok (.ireturn, 1) := by decide +kernel
theorem dX11_thing_17 : decode cX11_thing 17 = .ok (.iload_n 2, 1) := by decide +kernel
theorem dX11_thing_18 : decode cX11_thing 18 = .ok (.tableswitch 99 0 4 #[34, 47, 60, 73, 86], 34) := by decide +kernel
theorem dX11_thing_52 : decode cX11_thing 52 = .ok (.aload_n 0, 1) := by decide +kernel
theorem dX11_thing_53 : decode cX11_thing 53 = .ok (.getfield 10, 3) := by decide +kernel
theorem dX11_thing_56 : decode cX11_thing 56 = .ok (.getfield 91, 3) := by decide +kernel
theorem dX11_thing_59 : decode cX11_thing 59 = .ok (.iload_n 1, 1) := by decide +kernel
theorem dX11_thing_60 : decode cX11_thing 60 = .ok (.aaload, 1) := by decide +kernel
theorem dX11_thing_61 : decode cX11_thing 61 = .ok (.getfield 95, 3) := by decide +kernel
theorem dX11_thing_64 : decode cX11_thing 64 = .ok (.ireturn, 1) := by decide +kernel
theorem dX11_thing_65 : decode cX11_thing 65 = .ok (.aload_n 0, 1) := by decide +kernel
theorem dX11_thing_66 : decode cX11_thing 66 = .ok (.getfield 10, 3) := by decide +kernel
theorem dX11_thing_69 : decode cX11_thing 69 = .ok (.getfield 91, 3) := by decide +kernel
theorem dX11_thing_72 : decode cX11_thing 72 = .ok (.iload_n 1, 1) := by decide +kernel
theorem dX11_thing_73 : decode cX11_thing 73 = .ok (.aaload, 1) := by decide +kernel
theorem dX11_thing_74 : decode cX11_thing 74 = .ok (.getfield 100, 3) := by decide +kernel
theorem dX11_thing_77 : decode cX11_thing 77 = .ok (.ireturn, 1) := by decide +kernel
theorem dX11_thing_78 : decode cX11_thing 78 = .ok (.aload_n 0, 1) := by decide +kernel
theorem dX11_thing_79 : decode cX11_thing 79 = .ok (.getfield 10, 3) := by decide +kernel
theorem dX11_thing_82 : decode cX11_thing 82 = .ok (.getfield 91, 3) := by decide +kernel
theorem dX11_thing_85 : decode cX11_thing 85 = .ok (.iload_n 1, 1) := by decide +kernel
theorem dX11_thing_86 : decode cX11_thing 86 = .ok (.aaload, 1) := by decide +kernel
theorem dX11_thing_87 : decode cX11_thing 87 = .ok (.getfield 103, 3) := by decide +kernel
theorem dX11_thing_90 : decode cX11_thing 90 = .ok (.ireturn, 1) := by decide +kernel
theorem dX11_thing_91 : decode cX11_thing 91 = .ok (.aload_n 0, 1) := by decide +kernel
theorem dX11_thing_92 : decode cX11_thing 92 = .ok (.getfield 10, 3) := by decide +kernel
theorem dX11_thing_95 : decode cX11_thing 95 = .ok (.getfield 91, 3) := by decide +kernel
theorem dX11_thing_98 : decode cX11_thing 98 = .ok (.iload_n 1, 1) := by decide +kernel
theorem dX11_thing_99 : decode cX11_thing 99 = .ok (.aaload, 1) := by decide +kernel
theorem dX11_thing_100 : decode cX11_thing 100 = .ok (.getfield 106, 3) := by decide +kernel
theorem dX11_thing_103 : decode cX11_thing 103 = .ok (.ireturn, 1) := by decide +kernel
theorem dX11_thing_104 : decode cX11_thing 104 = .ok (.aload_n 0, 1) := by decide +kernel
theorem dX11_thing_105 : decode cX11_thing 105 = .ok (.getfield 10, 3) := by decide +kernel
theorem dX11_thing_108 : decode cX11_thing 108 = .ok (.getfield 109, 3) := by decide +kernel
theorem dX11_thing_111 : decode cX11_thing 111 = .ok (.getfield 113, 3) := by decide +kernel
theorem dX11_thing_114 : decode cX11_thing 114 = .ok (.iload_n 1, 1) := by decide +kernel
theorem dX11_thing_115 : decode cX11_thing 115 = .ok (.iaload, 1) := by decide +kernel
theorem dX11_thing_116 : decode cX11_thing 116 = .ok (.ireturn, 1) := by decide +kernel
theorem dX11_thing_117 : decode cX11_thing 117 = .ok (.aload_n 0, 1) := by decide +kernel
theorem dX11_thing_118 : decode cX11_thing 118 = .ok (.bipush (-2), 2) := by decide +kernel
theorem dX11_thing_120 : decode cX11_thing 120 = .ok (.invokevirtual 64, 3) := by decide +kernel
theorem dX11_thing_123 : decode cX11_thing 123 = .ok (.ireturn, 1) := by decide +kernel
theorem dX11_set_0 : decode cX11_set 0 = .ok (.iload_n 1, 1) := by decide +kernel
theorem dX11_set_1 : decode cX11_set 1 = .ok (.ifCond .lt 8, 3) := by decide +kernel
theorem dX11_set_4 : decode cX11_set 4 = .ok (.iload_n 1, 1) := by decide +kernel
theorem dX11_set_5 : decode cX11_set 5 = .ok (.iconst 3, 1) := by decide +kernel
theorem dX11_set_6 : decode cX11_set 6 = .ok (.if_icmp .le 10, 3) := by decide +kernel
theorem dX11_set_9 : decode cX11_set 9 = .ok (.aload_n 0, 1) := by decide +kernel
theorem dX11_set_10 : decode cX11_set 10 = .ok (.bipush (-2), 2) := by decide +kernel
theorem dX11_set_12 : decode cX11_set 12 = .ok (.invokevirtual 64, 3) := by decide +kernel
theorem dX11_set_15 : decode cX11_set 15 = .ok (.ireturn, 1) := by decide +kernel
theorem dX11_set_16 : decode cX11_set 16 = .ok (.iload_n 1, 1) := by decide +kernel
theorem dX11_set_17 : decode cX11_set 17 = .ok (.iconst 3, 1) := by decide +kernel
theorem dX11_set_18 : decode cX11_set 18 = .ok (.if_icmp .ne 20, 3) := by decide +kernel
theorem dX11_set_21 : decode cX11_set 21 = .ok (.aload_n 0, 1) := by decide +kernel
theorem dX11_set_22 : decode cX11_set 22 = .ok (.getfield 10, 3) := by decide +kernel
theorem dX11_set_25 : decode cX11_set 25 = .ok (.iload_n 2, 1) := by decide +kernel
theorem dX11_set_26 : decode cX11_set 26 = .ok (.invokevirtual 79, 3) := by decide +kernel
theorem dX11_set_29 : decode cX11_set 29 = .ok (.ifCond .ne 9, 3) := by decide +kernel
theorem dX11_set_32 : decode cX11_set 32 = .ok (.aload_n 0, 1) := by decide +kernel
theorem dX11_set_33 : decode cX11_set 33 = .ok (.iconst (-1), 1) := by decide +kernel
theorem dX11_set_34 : decode cX11_set 34 = .ok (.invokevirtual 64, 3) := by decide +kernel
theorem dX11_set_37 : decode cX11_set 37 = .ok (.ireturn, 1) := by decide +kernel
theorem dX11_set_38 : decode cX11_set 38 = .ok (.iload_n 2, 1) := by decide +kernel
theorem dX11_set_39 : decode cX11_set 39 = .ok (.iload_n 1, 1) := by decide +kernel
theorem dX11_set_40 : decode cX11_set 40 = .ok (.iconst 2, 1) := by decide +kernel
theorem dX11_set_41 : decode cX11_set 41 = .ok (.if_icmp .ne 7, 3) := by decide +kernel
theorem dX11_set_44 : decode cX11_set 44 = .ok (.iconst 1, 1) := by decide +kernel
theorem dX11_set_45 : decode cX11_set 45 = .ok (.goto 4, 3) := by decide +kernel
theorem dX11_set_48 : decode cX11_set 48 = .ok (.iconst 0, 1) := by decide +kernel
theorem dX11_set_49 : decode cX11_set 49 = .ok (.if_icmp .ge 10, 3) := by decide +kernel
theorem dX11_set_52 : decode cX11_set 52 = .ok (.aload_n 0, 1) := by decide +kernel
theorem dX11_set_53 : decode cX11_set 53 = .ok (.bipush (-4), 2) := by decide +kernel
theorem dX11_set_55 : decode cX11_set 55 = .ok (.invokevirtual 64, 3) := by decide +kernel
theorem dX11_set_58 : decode cX11_set 58 = .ok (.ireturn, 1) := by decide +kernel
theorem dX11_set_59 : decode cX11_set 59 = .ok (.iload_n 2, 1) := by decide +kernel
theorem dX11_set_60 : decode cX11_set 60 = .ok (.sipush 999, 3) := by decide +kernel
theorem dX11_set_63 : decode cX11_set 63 = .ok (.if_icmp .le 10, 3) := by decide +kernel
theorem dX11_set_66 : decode cX11_set 66 = .ok (.aload_n 0, 1) := by decide +kernel
theorem dX11_set_67 : decode cX11_set 67 = .ok (.bipush (-6), 2) := by decide +kernel
theorem dX11_set_69 : decode cX11_set 69 = .ok (.invokevirtual 64, 3) := by decide +kernel
theorem dX11_set_72 : decode cX11_set 72 = .ok (.ireturn, 1) := by decide +kernel
theorem dX11_set_73 : decode cX11_set 73 = .ok (.aload_n 0, 1) := by decide +kernel
theorem dX11_set_74 : decode cX11_set 74 = .ok (.getfield 10, 3) := by decide +kernel
theorem dX11_set_77 : decode cX11_set 77 = .ok (.getfield 118, 3) := by decide +kernel
theorem dX11_set_80 : decode cX11_set 80 = .ok (.iload_n 1, 1) := by decide +kernel
theorem dX11_set_81 : decode cX11_set 81 = .ok (.iaload, 1) := by decide +kernel
theorem dX11_set_82 : decode cX11_set 82 = .ok (.istore_n 3, 1) := by decide +kernel
theorem dX11_set_83 : decode cX11_set 83 = .ok (.aload_n 0, 1) := by decide +kernel
theorem dX11_set_84 : decode cX11_set 84 = .ok (.getfield 10, 3) := by decide +kernel
theorem dX11_set_87 : decode cX11_set 87 = .ok (.getfield 118, 3) := by decide +kernel
theorem dX11_set_90 : decode cX11_set 90 = .ok (.iload_n 1, 1) := by decide +kernel
theorem dX11_set_91 : decode cX11_set 91 = .ok (.iload_n 2, 1) := by decide +kernel
theorem dX11_set_92 : decode cX11_set 92 = .ok (.iastore, 1) := by decide +kernel
theorem dX11_set_93 : decode cX11_set 93 = .ok (.iload_n 3, 1) := by decide +kernel
theorem dX11_set_94 : decode cX11_set 94 = .ok (.ireturn, 1) := by decide +kernel
theorem dX11_go_0 : decode cX11_go 0 = .ok (.aload_n 0, 1) := by decide +kernel
theorem dX11_go_1 : decode cX11_go 1 = .ok (.getfield 10, 3) := by decide +kernel
theorem dX11_go_4 : decode cX11_go 4 = .ok (.iload_n 1, 1) := by decide +kernel
theorem dX11_go_5 : decode cX11_go 5 = .ok (.invokevirtual 79, 3) := by decide +kernel
theorem dX11_go_8 : decode cX11_go 8 = .ok (.ifCond .ne 9, 3) := by decide +kernel
theorem dX11_go_11 : decode cX11_go 11 = .ok (.aload_n 0, 1) := by decide +kernel
theorem dX11_go_12 : decode cX11_go 12 = .ok (.iconst (-1), 1) := by decide +kernel
theorem dX11_go_13 : decode cX11_go 13 = .ok (.invokevirtual 64, 3) := by decide +kernel
theorem dX11_go_16 : decode cX11_go 16 = .ok (.ireturn, 1) := by decide +kernel
theorem dX11_go_17 : decode cX11_go 17 = .ok (.aload_n 0, 1) := by decide +kernel
theorem dX11_go_18 : decode cX11_go 18 = .ok (.getfield 10, 3) := by decide +kernel
theorem dX11_go_21 : decode cX11_go 21 = .ok (.getfield 109, 3) := by decide +kernel
theorem dX11_go_24 : decode cX11_go 24 = .ok (.aload_n 0, 1) := by decide +kernel
theorem dX11_go_25 : decode cX11_go 25 = .ok (.getfield 10, 3) := by decide +kernel
theorem dX11_go_28 : decode cX11_go 28 = .ok (.iload_n 1, 1) := by decide +kernel
theorem dX11_go_29 : decode cX11_go 29 = .ok (.invokevirtual 121, 3) := by decide +kernel
theorem dX11_go_32 : decode cX11_go 32 = .ok (.ifCond .ne 10, 3) := by decide +kernel
theorem dX11_go_35 : decode cX11_go 35 = .ok (.aload_n 0, 1) := by decide +kernel
theorem dX11_go_36 : decode cX11_go 36 = .ok (.bipush (-3), 2) := by decide +kernel
theorem dX11_go_38 : decode cX11_go 38 = .ok (.invokevirtual 64, 3) := by decide +kernel
theorem dX11_go_41 : decode cX11_go 41 = .ok (.ireturn, 1) := by decide +kernel
theorem dX11_go_42 : decode cX11_go 42 = .ok (.aload_n 0, 1) := by decide +kernel
theorem dX11_go_43 : decode cX11_go 43 = .ok (.getfield 10, 3) := by decide +kernel
theorem dX11_go_46 : decode cX11_go 46 = .ok (.getfield 109, 3) := by decide +kernel
theorem dX11_go_49 : decode cX11_go 49 = .ok (.aload_n 0, 1) := by decide +kernel
theorem dX11_go_50 : decode cX11_go 50 = .ok (.getfield 10, 3) := by decide +kernel
theorem dX11_go_53 : decode cX11_go 53 = .ok (.iload_n 1, 1) := by decide +kernel
theorem dX11_go_54 : decode cX11_go 54 = .ok (.invokevirtual 125, 3) := by decide +kernel
theorem dX11_go_57 : decode cX11_go 57 = .ok (.aload_n 0, 1) := by decide +kernel
theorem dX11_go_58 : decode cX11_go 58 = .ok (.getfield 10, 3) := by decide +kernel
theorem dX11_go_61 : decode cX11_go 61 = .ok (.getfield 109, 3) := by decide +kernel
theorem dX11_go_64 : decode cX11_go 64 = .ok (.getfield 129, 3) := by decide +kernel
theorem dX11_go_67 : decode cX11_go 67 = .ok (.ireturn, 1) := by decide +kernel
theorem dX11_have_0 : decode cX11_have 0 = .ok (.aload_n 0, 1) := by decide +kernel
theorem dX11_have_1 : decode cX11_have 1 = .ok (.getfield 10, 3) := by decide +kernel
theorem dX11_have_4 : decode cX11_have 4 = .ok (.iload_n 1, 1) := by decide +kernel
theorem dX11_have_5 : decode cX11_have 5 = .ok (.invokevirtual 88, 3) := by decide +kernel
theorem dX11_have_8 : decode cX11_have 8 = .ok (.ifCond .ne 9, 3) := by decide +kernel
theorem dX11_have_11 : decode cX11_have 11 = .ok (.aload_n 0, 1) := by decide +kernel
theorem dX11_have_12 : decode cX11_have 12 = .ok (.iconst (-1), 1) := by decide +kernel
theorem dX11_have_13 : decode cX11_have 13 = .ok (.invokevirtual 64, 3) := by decide +kernel
theorem dX11_have_16 : decode cX11_have 16 = .ok (.ireturn, 1) := by decide +kernel
theorem dX11_have_17 : decode cX11_have 17 = .ok (.aload_n 0, 1) := by decide +kernel
theorem dX11_have_18 : decode cX11_have 18 = .ok (.getfield 10, 3) := by decide +kernel
theorem dX11_have_21 : decode cX11_have 21 = .ok (.getfield 109, 3) := by decide +kernel
theorem dX11_have_24 : decode cX11_have 24 = .ok (.aload_n 0, 1) := by decide +kernel
theorem dX11_have_25 : decode cX11_have 25 = .ok (.getfield 10, 3) := by decide +kernel
theorem dX11_have_28 : decode cX11_have 28 = .ok (.iload_n 1, 1) := by decide +kernel
theorem dX11_have_29 : decode cX11_have 29 = .ok (.invokevirtual 132, 3) := by decide +kernel
theorem dX11_have_32 : decode cX11_have 32 = .ok (.ifCond .ne 10, 3) := by decide +kernel
theorem dX11_have_35 : decode cX11_have 35 = .ok (.aload_n 0, 1) := by decide +kernel
theorem dX11_have_36 : decode cX11_have 36 = .ok (.bipush (-3), 2) := by decide +kernel
theorem dX11_have_38 : decode cX11_have 38 = .ok (.invokevirtual 64, 3) := by decide +kernel
theorem dX11_have_41 : decode cX11_have 41 = .ok (.ireturn, 1) := by decide +kernel
theorem dX11_have_42 : decode cX11_have 42 = .ok (.aload_n 0, 1) := by decide +kernel
theorem dX11_have_43 : decode cX11_have 43 = .ok (.getfield 10, 3) := by decide +kernel
theorem dX11_have_46 : decode cX11_have 46 = .ok (.getfield 109, 3) := by decide +kernel
theorem dX11_have_49 : decode cX11_have 49 = .ok (.aload_n 0, 1) := by decide +kernel
theorem dX11_have_50 : decode cX11_have 50 = .ok (.getfield 10, 3) := by decide +kernel
theorem dX11_have_53 : decode cX11_have 53 = .ok (.iload_n 1, 1) := by decide +kernel
theorem dX11_have_54 : decode cX11_have 54 = .ok (.invokevirtual 135, 3) := by decide +kernel
theorem dX11_have_57 : decode cX11_have 57 = .ok (.ireturn, 1) := by decide +kernel
theorem dX11_worthAt_0 : decode cX11_worthAt 0 = .ok (.aload_n 0, 1) := by decide +kernel
theorem dX11_worthAt_1 : decode cX11_worthAt 1 = .ok (.getfield 10, 3) := by decide +kernel
theorem dX11_worthAt_4 : decode cX11_worthAt 4 = .ok (.iload_n 1, 1) := by decide +kernel
theorem dX11_worthAt_5 : decode cX11_worthAt 5 = .ok (.invokevirtual 88, 3) := by decide +kernel
theorem dX11_worthAt_8 : decode cX11_worthAt 8 = .ok (.ifCond .ne 9, 3) := by decide +kernel
theorem dX11_worthAt_11 : decode cX11_worthAt 11 = .ok (.aload_n 0, 1) := by decide +kernel
theorem dX11_worthAt_12 : decode cX11_worthAt 12 = .ok (.iconst (-1), 1) := by decide +kernel
theorem dX11_worthAt_13 : decode cX11_worthAt 13 = .ok (.invokevirtual 64, 3) := by decide +kernel
theorem dX11_worthAt_16 : decode cX11_worthAt 16 = .ok (.ireturn, 1) := by decide +kernel
theorem dX11_worthAt_17 : decode cX11_worthAt 17 = .ok (.iload_n 2, 1) := by decide +kernel
theorem dX11_worthAt_18 : decode cX11_worthAt 18 = .ok (.ifCond .lt 7, 3) := by decide +kernel
theorem dX11_worthAt_21 : decode cX11_worthAt 21 = .ok (.iload_n 3, 1) := by decide +kernel
theorem dX11_worthAt_22 : decode cX11_worthAt 22 = .ok (.ifCond .ge 10, 3) := by decide +kernel
theorem dX11_worthAt_25 : decode cX11_worthAt 25 = .ok (.aload_n 0, 1) := by decide +kernel
theorem dX11_worthAt_26 : decode cX11_worthAt 26 = .ok (.bipush (-4), 2) := by decide +kernel
theorem dX11_worthAt_28 : decode cX11_worthAt 28 = .ok (.invokevirtual 64, 3) := by decide +kernel
theorem dX11_worthAt_31 : decode cX11_worthAt 31 = .ok (.ireturn, 1) := by decide +kernel
theorem dX11_worthAt_32 : decode cX11_worthAt 32 = .ok (.iload_n 2, 1) := by decide +kernel
theorem dX11_worthAt_33 : decode cX11_worthAt 33 = .ok (.sipush 999, 3) := by decide +kernel
theorem dX11_worthAt_36 : decode cX11_worthAt 36 = .ok (.if_icmp .gt 9, 3) := by decide +kernel
theorem dX11_worthAt_39 : decode cX11_worthAt 39 = .ok (.iload_n 3, 1) := by decide +kernel
theorem dX11_worthAt_40 : decode cX11_worthAt 40 = .ok (.bipush 20, 2) := by decide +kernel
theorem dX11_worthAt_42 : decode cX11_worthAt 42 = .ok (.if_icmp .le 10, 3) := by decide +kernel
theorem dX11_worthAt_45 : decode cX11_worthAt 45 = .ok (.aload_n 0, 1) := by decide +kernel
theorem dX11_worthAt_46 : decode cX11_worthAt 46 = .ok (.bipush (-6), 2) := by decide +kernel
theorem dX11_worthAt_48 : decode cX11_worthAt 48 = .ok (.invokevirtual 64, 3) := by decide +kernel
theorem dX11_worthAt_51 : decode cX11_worthAt 51 = .ok (.ireturn, 1) := by decide +kernel
theorem dX11_worthAt_52 : decode cX11_worthAt 52 = .ok (.aload_n 0, 1) := by decide +kernel
theorem dX11_worthAt_53 : decode cX11_worthAt 53 = .ok (.getfield 10, 3) := by decide +kernel
theorem dX11_worthAt_56 : decode cX11_worthAt 56 = .ok (.getfield 91, 3) := by decide +kernel
theorem dX11_worthAt_59 : decode cX11_worthAt 59 = .ok (.iload_n 1, 1) := by decide +kernel
theorem dX11_worthAt_60 : decode cX11_worthAt 60 = .ok (.aaload, 1) := by decide +kernel
theorem dX11_worthAt_61 : decode cX11_worthAt 61 = .ok (.iload_n 2, 1) := by decide +kernel
theorem dX11_worthAt_62 : decode cX11_worthAt 62 = .ok (.iload_n 3, 1) := by decide +kernel
theorem dX11_worthAt_63 : decode cX11_worthAt 63 = .ok (.aload_n 0, 1) := by decide +kernel
theorem dX11_worthAt_64 : decode cX11_worthAt 64 = .ok (.getfield 10, 3) := by decide +kernel
theorem dX11_worthAt_67 : decode cX11_worthAt 67 = .ok (.getfield 118, 3) := by decide +kernel
theorem dX11_worthAt_70 : decode cX11_worthAt 70 = .ok (.invokevirtual 139, 3) := by decide +kernel
theorem dX11_worthAt_73 : decode cX11_worthAt 73 = .ok (.ireturn, 1) := by decide +kernel
theorem dX11_may_0 : decode cX11_may 0 = .ok (.aload_n 0, 1) := by decide +kernel
theorem dX11_may_1 : decode cX11_may 1 = .ok (.getfield 10, 3) := by decide +kernel
theorem dX11_may_4 : decode cX11_may 4 = .ok (.iload_n 1, 1) := by decide +kernel
theorem dX11_may_5 : decode cX11_may 5 = .ok (.invokevirtual 88, 3) := by decide +kernel
theorem dX11_may_8 : decode cX11_may 8 = .ok (.ifCond .ne 9, 3) := by decide +kernel
theorem dX11_may_11 : decode cX11_may 11 = .ok (.aload_n 0, 1) := by decide +kernel
theorem dX11_may_12 : decode cX11_may 12 = .ok (.iconst (-1), 1) := by decide +kernel
theorem dX11_may_13 : decode cX11_may 13 = .ok (.invokevirtual 64, 3) := by decide +kernel
theorem dX11_may_16 : decode cX11_may 16 = .ok (.ireturn, 1) := by decide +kernel
theorem dX11_may_17 : decode cX11_may 17 = .ok (.aload_n 0, 1) := by decide +kernel
theorem dX11_may_18 : decode cX11_may 18 = .ok (.getfield 10, 3) := by decide +kernel
theorem dX11_may_21 : decode cX11_may 21 = .ok (.getfield 109, 3) := by decide +kernel
theorem dX11_may_24 : decode cX11_may 24 = .ok (.aload_n 0, 1) := by decide +kernel
theorem dX11_may_25 : decode cX11_may 25 = .ok (.getfield 10, 3) := by decide +kernel
theorem dX11_may_28 : decode cX11_may 28 = .ok (.iload_n 1, 1) := by decide +kernel
theorem dX11_may_29 : decode cX11_may 29 = .ok (.invokevirtual 132, 3) := by decide +kernel
theorem dX11_may_32 : decode cX11_may 32 = .ok (.ifCond .eq 7, 3) := by decide +kernel
theorem dX11_may_35 : decode cX11_may 35 = .ok (.iconst 1, 1) := by decide +kernel
theorem dX11_may_36 : decode cX11_may 36 = .ok (.goto 4, 3) := by decide +kernel
theorem dX11_may_39 : decode cX11_may 39 = .ok (.iconst 0, 1) := by decide +kernel
theorem dX11_may_40 : decode cX11_may 40 = .ok (.ireturn, 1) := by decide +kernel
theorem dX11_life_0 : decode cX11_life 0 = .ok (.iload_n 1, 1) := by decide +kernel
theorem dX11_life_1 : decode cX11_life 1 = .ok (.tableswitch 124 0 4 #[35, 46, 57, 68, 96], 35) := by decide +kernel
theorem dX11_life_36 : decode cX11_life 36 = .ok (.aload_n 0, 1) := by decide +kernel
theorem dX11_life_37 : decode cX11_life 37 = .ok (.getfield 10, 3) := by decide +kernel
theorem dX11_life_40 : decode cX11_life 40 = .ok (.getfield 109, 3) := by decide +kernel
theorem dX11_life_43 : decode cX11_life 43 = .ok (.getfield 143, 3) := by decide +kernel
theorem dX11_life_46 : decode cX11_life 46 = .ok (.ireturn, 1) := by decide +kernel
theorem dX11_life_47 : decode cX11_life 47 = .ok (.aload_n 0, 1) := by decide +kernel
theorem dX11_life_48 : decode cX11_life 48 = .ok (.getfield 10, 3) := by decide +kernel
theorem dX11_life_51 : decode cX11_life 51 = .ok (.getfield 109, 3) := by decide +kernel
theorem dX11_life_54 : decode cX11_life 54 = .ok (.getfield 129, 3) := by decide +kernel
theorem dX11_life_57 : decode cX11_life 57 = .ok (.ireturn, 1) := by decide +kernel
theorem dX11_life_58 : decode cX11_life 58 = .ok (.aload_n 0, 1) := by decide +kernel
theorem dX11_life_59 : decode cX11_life 59 = .ok (.getfield 10, 3) := by decide +kernel
theorem dX11_life_62 : decode cX11_life 62 = .ok (.getfield 109, 3) := by decide +kernel
theorem dX11_life_65 : decode cX11_life 65 = .ok (.getfield 146, 3) := by decide +kernel
theorem dX11_life_68 : decode cX11_life 68 = .ok (.ireturn, 1) := by decide +kernel
theorem dX11_life_69 : decode cX11_life 69 = .ok (.aload_n 0, 1) := by decide +kernel
theorem dX11_life_70 : decode cX11_life 70 = .ok (.getfield 10, 3) := by decide +kernel
theorem dX11_life_73 : decode cX11_life 73 = .ok (.getfield 109, 3) := by decide +kernel
theorem dX11_life_76 : decode cX11_life 76 = .ok (.getfield 129, 3) := by decide +kernel
theorem dX11_life_79 : decode cX11_life 79 = .ok (.aload_n 0, 1) := by decide +kernel
theorem dX11_life_80 : decode cX11_life 80 = .ok (.getfield 10, 3) := by decide +kernel
theorem dX11_life_83 : decode cX11_life 83 = .ok (.getfield 118, 3) := by decide +kernel
theorem dX11_life_86 : decode cX11_life 86 = .ok (.iconst 0, 1) := by decide +kernel
theorem dX11_life_87 : decode cX11_life 87 = .ok (.iaload, 1) := by decide +kernel
theorem dX11_life_88 : decode cX11_life 88 = .ok (.if_icmp .lt 7, 3) := by decide +kernel
theorem dX11_life_91 : decode cX11_life 91 = .ok (.iconst 1, 1) := by decide +kernel
theorem dX11_life_92 : decode cX11_life 92 = .ok (.goto 4, 3) := by decide +kernel
theorem dX11_life_95 : decode cX11_life 95 = .ok (.iconst 0, 1) := by decide +kernel
theorem dX11_life_96 : decode cX11_life 96 = .ok (.ireturn, 1) := by decide +kernel
theorem dX11_life_97 : decode cX11_life 97 = .ok (.aload_n 0, 1) := by decide +kernel
theorem dX11_life_98 : decode cX11_life 98 = .ok (.getfield 10, 3) := by decide +kernel
theorem dX11_life_101 : decode cX11_life 101 = .ok (.getfield 109, 3) := by decide +kernel
theorem dX11_life_104 : decode cX11_life 104 = .ok (.getfield 129, 3) := by decide +kernel
theorem dX11_life_107 : decode cX11_life 107 = .ok (.aload_n 0, 1) := by decide +kernel
theorem dX11_life_108 : decode cX11_life 108 = .ok (.getfield 10, 3) := by decide +kernel
theorem dX11_life_111 : decode cX11_life 111 = .ok (.getfield 118, 3) := by decide +kernel
theorem dX11_life_114 : decode cX11_life 114 = .ok (.iconst 1, 1) := by decide +kernel
theorem dX11_life_115 : decode cX11_life 115 = .ok (.iaload, 1) := by decide +kernel
theorem dX11_life_116 : decode cX11_life 116 = .ok (.if_icmp .lt 7, 3) := by decide +kernel
theorem dX11_life_119 : decode cX11_life 119 = .ok (.iconst 1, 1) := by decide +kernel
theorem dX11_life_120 : decode cX11_life 120 = .ok (.goto 4, 3) := by decide +kernel
theorem dX11_life_123 : decode cX11_life 123 = .ok (.iconst 0, 1) := by decide +kernel
theorem dX11_life_124 : decode cX11_life 124 = .ok (.ireturn, 1) := by decide +kernel
theorem dX11_life_125 : decode cX11_life 125 = .ok (.aload_n 0, 1) := by decide +kernel
theorem dX11_life_126 : decode cX11_life 126 = .ok (.bipush (-2), 2) := by decide +kernel
theorem dX11_life_128 : decode cX11_life 128 = .ok (.invokevirtual 64, 3) := by decide +kernel
theorem dX11_life_131 : decode cX11_life 131 = .ok (.ireturn, 1) := by decide +kernel
theorem dX11_nextLife_0 : decode cX11_nextLife 0 = .ok (.aload_n 0, 1) := by decide +kernel
theorem dX11_nextLife_1 : decode cX11_nextLife 1 = .ok (.getfield 10, 3) := by decide +kernel
theorem dX11_nextLife_4 : decode cX11_nextLife 4 = .ok (.getfield 109, 3) := by decide +kernel
theorem dX11_nextLife_7 : decode cX11_nextLife 7 = .ok (.getfield 146, 3) := by decide +kernel
theorem dX11_nextLife_10 : decode cX11_nextLife 10 = .ok (.istore_n 1, 1) := by decide +kernel
theorem dX11_nextLife_11 : decode cX11_nextLife 11 = .ok (.aload_n 0, 1) := by decide +kernel
theorem dX11_nextLife_12 : decode cX11_nextLife 12 = .ok (.getfield 10, 3) := by decide +kernel
theorem dX11_nextLife_15 : decode cX11_nextLife 15 = .ok (.getfield 109, 3) := by decide +kernel
theorem dX11_nextLife_18 : decode cX11_nextLife 18 = .ok (.aload_n 0, 1) := by decide +kernel
theorem dX11_nextLife_19 : decode cX11_nextLife 19 = .ok (.getfield 10, 3) := by decide +kernel
theorem dX11_nextLife_22 : decode cX11_nextLife 22 = .ok (.getfield 118, 3) := by decide +kernel
theorem dX11_nextLife_25 : decode cX11_nextLife 25 = .ok (.iconst 3, 1) := by decide +kernel
theorem dX11_nextLife_26 : decode cX11_nextLife 26 = .ok (.iaload, 1) := by decide +kernel
theorem dX11_nextLife_27 : decode cX11_nextLife 27 = .ok (.invokevirtual 147, 3) := by decide +kernel
theorem dX11_nextLife_30 : decode cX11_nextLife 30 = .ok (.iload_n 1, 1) := by decide +kernel
theorem dX11_nextLife_31 : decode cX11_nextLife 31 = .ok (.ireturn, 1) := by decide +kernel
theorem dX11_order_0 : decode cX11_order 0 = .ok (.iload_n 1, 1) := by decide +kernel
theorem dX11_order_1 : decode cX11_order 1 = .ok (.ifCond .ge 10, 3) := by decide +kernel
theorem dX11_order_4 : decode cX11_order 4 = .ok (.aload_n 0, 1) := by decide +kernel
theorem dX11_order_5 : decode cX11_order 5 = .ok (.bipush (-4), 2) := by decide +kernel
theorem dX11_order_7 : decode cX11_order 7 = .ok (.invokevirtual 64, 3) := by decide +kernel
theorem dX11_order_10 : decode cX11_order 10 = .ok (.ireturn, 1) := by decide +kernel
theorem dX11_order_11 : decode cX11_order 11 = .ok (.iload_n 1, 1) := by decide +kernel
theorem dX11_order_12 : decode cX11_order 12 = .ok (.bipush 8, 2) := by decide +kernel
theorem dX11_order_14 : decode cX11_order 14 = .ok (.if_icmp .le 10, 3) := by decide +kernel
theorem dX11_order_17 : decode cX11_order 17 = .ok (.aload_n 0, 1) := by decide +kernel
theorem dX11_order_18 : decode cX11_order 18 = .ok (.bipush (-6), 2) := by decide +kernel
theorem dX11_order_20 : decode cX11_order 20 = .ok (.invokevirtual 64, 3) := by decide +kernel
theorem dX11_order_23 : decode cX11_order 23 = .ok (.ireturn, 1) := by decide +kernel
theorem dX11_order_24 : decode cX11_order 24 = .ok (.lload_n 2, 1) := by decide +kernel
theorem dX11_order_25 : decode cX11_order 25 = .ok (.lconst 0, 1) := by decide +kernel
theorem dX11_order_26 : decode cX11_order 26 = .ok (.lcmp, 1) := by decide +kernel
theorem dX11_order_27 : decode cX11_order 27 = .ok (.ifCond .lt 12, 3) := by decide +kernel
theorem dX11_order_30 : decode cX11_order 30 = .ok (.aload_n 0, 1) := by decide +kernel
theorem dX11_order_31 : decode cX11_order 31 = .ok (.iload_n 1, 1) := by decide +kernel
theorem dX11_order_32 : decode cX11_order 32 = .ok (.lload_n 2, 1) := by decide +kernel
theorem dX11_order_33 : decode cX11_order 33 = .ok (.invokevirtual 151, 3) := by decide +kernel
theorem dX11_order_36 : decode cX11_order 36 = .ok (.ifCond .ne 9, 3) := by decide +kernel
theorem dX11_order_39 : decode cX11_order 39 = .ok (.aload_n 0, 1) := by decide +kernel
theorem dX11_order_40 : decode cX11_order 40 = .ok (.iconst (-1), 1) := by decide +kernel
theorem dX11_order_41 : decode cX11_order 41 = .ok (.invokevirtual 64, 3) := by decide +kernel
theorem dX11_order_44 : decode cX11_order 44 = .ok (.ireturn, 1) := by decide +kernel
theorem dX11_order_45 : decode cX11_order 45 = .ok (.aload_n 0, 1) := by decide +kernel
theorem dX11_order_46 : decode cX11_order 46 = .ok (.getfield 10, 3) := by decide +kernel
theorem dX11_order_49 : decode cX11_order 49 = .ok (.getfield 155, 3) := by decide +kernel
theorem dX11_order_52 : decode cX11_order 52 = .ok (.istore 4, 2) := by decide +kernel
theorem dX11_order_54 : decode cX11_order 54 = .ok (.lload_n 2, 1) := by decide +kernel
theorem dX11_order_55 : decode cX11_order 55 = .ok (.lstore 5, 2) := by decide +kernel
theorem dX11_order_57 : decode cX11_order 57 = .ok (.iconst 0, 1) := by decide +kernel
theorem dX11_order_58 : decode cX11_order 58 = .ok (.istore 7, 2) := by decide +kernel
theorem dX11_order_60 : decode cX11_order 60 = .ok (.iload 7, 2) := by decide +kernel
theorem dX11_order_62 : decode cX11_order 62 = .ok (.iload_n 1, 1) := by decide +kernel
theorem dX11_order_63 : decode cX11_order 63 = .ok (.if_icmp .ge 34, 3) := by decide +kernel
theorem dX11_order_66 : decode cX11_order 66 = .ok (.aload_n 0, 1) := by decide +kernel
theorem dX11_order_67 : decode cX11_order 67 = .ok (.getfield 10, 3) := by decide +kernel
theorem dX11_order_70 : decode cX11_order 70 = .ok (.getfield 158, 3) := by decide +kernel
theorem dX11_order_73 : decode cX11_order 73 = .ok (.iload 7, 2) := by decide +kernel
theorem dX11_order_75 : decode cX11_order 75 = .ok (.lload 5, 2) := by decide +kernel
theorem dX11_order_77 : decode cX11_order 77 = .ok (.ldc2_w 161, 3) := by decide +kernel
theorem dX11_order_80 : decode cX11_order 80 = .ok (.lrem, 1) := by decide +kernel
theorem dX11_order_81 : decode cX11_order 81 = .ok (.l2i, 1) := by decide +kernel
theorem dX11_order_82 : decode cX11_order 82 = .ok (.iastore, 1) := by decide +kernel
theorem dX11_order_83 : decode cX11_order 83 = .ok (.lload 5, 2) := by decide +kernel
theorem dX11_order_85 : decode cX11_order 85 = .ok (.ldc2_w 161, 3) := by decide +kernel
theorem dX11_order_88 : decode cX11_order 88 = .ok (.ldiv, 1) := by decide +kernel
theorem dX11_order_89 : decode cX11_order 89 = .ok (.lstore 5, 2) := by decide +kernel
theorem dX11_order_91 : decode cX11_order 91 = .ok (.iinc 7 1, 3) := by decide +kernel
theorem dX11_order_94 : decode cX11_order 94 = .ok (.goto (-34), 3) := by decide +kernel
theorem dX11_order_97 : decode cX11_order 97 = .ok (.aload_n 0, 1) := by decide +kernel
theorem dX11_order_98 : decode cX11_order 98 = .ok (.getfield 10, 3) := by decide +kernel
theorem dX11_order_101 : decode cX11_order 101 = .ok (.iload_n 1, 1) := by decide +kernel
theorem dX11_order_102 : decode cX11_order 102 = .ok (.putfield 155, 3) := by decide +kernel
theorem dX11_order_105 : decode cX11_order 105 = .ok (.iload 4, 2) := by decide +kernel
theorem dX11_order_107 : decode cX11_order 107 = .ok (.ireturn, 1) := by decide +kernel
theorem dX11_lived_0 : decode cX11_lived 0 = .ok (.iload_n 1, 1) := by decide +kernel
theorem dX11_lived_1 : decode cX11_lived 1 = .ok (.ifCond .lt 17, 3) := by decide +kernel
theorem dX11_lived_4 : decode cX11_lived 4 = .ok (.iload_n 1, 1) := by decide +kernel
theorem dX11_lived_5 : decode cX11_lived 5 = .ok (.iconst 3, 1) := by decide +kernel
theorem dX11_lived_6 : decode cX11_lived 6 = .ok (.if_icmp .gt 12, 3) := by decide +kernel
theorem dX11_lived_9 : decode cX11_lived 9 = .ok (.iload_n 2, 1) := by decide +kernel
theorem dX11_lived_10 : decode cX11_lived 10 = .ok (.ifCond .lt 8, 3) := by decide +kernel
theorem dX11_lived_13 : decode cX11_lived 13 = .ok (.iload_n 2, 1) := by decide +kernel
theorem dX11_lived_14 : decode cX11_lived 14 = .ok (.iconst 1, 1) := by decide +kernel
theorem dX11_lived_15 : decode cX11_lived 15 = .ok (.if_icmp .le 10, 3) := by decide +kernel
theorem dX11_lived_18 : decode cX11_lived 18 = .ok (.aload_n 0, 1) := by decide +kernel
theorem dX11_lived_19 : decode cX11_lived 19 = .ok (.bipush (-2), 2) := by decide +kernel
theorem dX11_lived_21 : decode cX11_lived 21 = .ok (.invokevirtual 64, 3) := by decide +kernel
theorem dX11_lived_24 : decode cX11_lived 24 = .ok (.ireturn, 1) := by decide +kernel
theorem dX11_lived_25 : decode cX11_lived 25 = .ok (.aload_n 0, 1) := by decide +kernel
theorem dX11_lived_26 : decode cX11_lived 26 = .ok (.getfield 36, 3) := by decide +kernel
theorem dX11_lived_29 : decode cX11_lived 29 = .ok (.aload_n 0, 1) := by decide +kernel
theorem dX11_lived_30 : decode cX11_lived 30 = .ok (.getfield 10, 3) := by decide +kernel
theorem dX11_lived_33 : decode cX11_lived 33 = .ok (.iload_n 1, 1) := by decide +kernel
theorem dX11_lived_34 : decode cX11_lived 34 = .ok (.invokevirtual 163, 3) := by decide +kernel
theorem dX11_lived_37 : decode cX11_lived 37 = .ok (.astore_n 3, 1) := by decide +kernel
theorem dX11_lived_38 : decode cX11_lived 38 = .ok (.iload_n 2, 1) := by decide +kernel
theorem dX11_lived_39 : decode cX11_lived 39 = .ok (.ifCond .ne 10, 3) := by decide +kernel
theorem dX11_lived_42 : decode cX11_lived 42 = .ok (.aload_n 3, 1) := by decide +kernel
theorem dX11_lived_43 : decode cX11_lived 43 = .ok (.getfield 146, 3) := by decide +kernel
theorem dX11_lived_46 : decode cX11_lived 46 = .ok (.goto 7, 3) := by decide +kernel
theorem dX11_lived_49 : decode cX11_lived 49 = .ok (.aload_n 3, 1) := by decide +kernel
theorem dX11_lived_50 : decode cX11_lived 50 = .ok (.getfield 129, 3) := by decide +kernel
theorem dX11_lived_53 : decode cX11_lived 53 = .ok (.ireturn, 1) := by decide +kernel
theorem dX11_best_0 : decode cX11_best 0 = .ok (.iload_n 1, 1) := by decide +kernel
theorem dX11_best_1 : decode cX11_best 1 = .ok (.iconst (-1), 1) := by decide +kernel
theorem dX11_best_2 : decode cX11_best 2 = .ok (.if_icmp .ge 10, 3) := by decide +kernel
theorem dX11_best_5 : decode cX11_best 5 = .ok (.aload_n 0, 1) := by decide +kernel
theorem dX11_best_6 : decode cX11_best 6 = .ok (.bipush (-4), 2) := by decide +kernel
theorem dX11_best_8 : decode cX11_best 8 = .ok (.invokevirtual 64, 3) := by decide +kernel
theorem dX11_best_11 : decode cX11_best 11 = .ok (.ireturn, 1) := by decide +kernel
theorem dX11_best_12 : decode cX11_best 12 = .ok (.aload_n 0, 1) := by decide +kernel
theorem dX11_best_13 : decode cX11_best 13 = .ok (.getfield 36, 3) := by decide +kernel
theorem dX11_best_16 : decode cX11_best 16 = .ok (.aload_n 0, 1) := by decide +kernel
theorem dX11_best_17 : decode cX11_best 17 = .ok (.getfield 10, 3) := by decide +kernel
theorem dX11_best_20 : decode cX11_best 20 = .ok (.invokevirtual 167, 3) := by decide +kernel
theorem dX11_best_23 : decode cX11_best 23 = .ok (.iload_n 1, 1) := by decide +kernel
theorem dX11_best_24 : decode cX11_best 24 = .ok (.iconst (-1), 1) := by decide +kernel
theorem dX11_best_25 : decode cX11_best 25 = .ok (.if_icmp .ne 11, 3) := by decide +kernel
theorem dX11_best_28 : decode cX11_best 28 = .ok (.aload_n 0, 1) := by decide +kernel
theorem dX11_best_29 : decode cX11_best 29 = .ok (.getfield 36, 3) := by decide +kernel
theorem dX11_best_32 : decode cX11_best 32 = .ok (.getfield 170, 3) := by decide +kernel
theorem dX11_best_35 : decode cX11_best 35 = .ok (.ireturn, 1) := by decide +kernel
theorem dX11_best_36 : decode cX11_best 36 = .ok (.iload_n 1, 1) := by decide +kernel
theorem dX11_best_37 : decode cX11_best 37 = .ok (.aload_n 0, 1) := by decide +kernel
theorem dX11_best_38 : decode cX11_best 38 = .ok (.getfield 36, 3) := by decide +kernel
theorem dX11_best_41 : decode cX11_best 41 = .ok (.getfield 173, 3) := by decide +kernel
theorem dX11_best_44 : decode cX11_best 44 = .ok (.if_icmp .ge 15, 3) := by decide +kernel
theorem dX11_best_47 : decode cX11_best 47 = .ok (.aload_n 0, 1) := by decide +kernel
theorem dX11_best_48 : decode cX11_best 48 = .ok (.getfield 36, 3) := by decide +kernel
theorem dX11_best_51 : decode cX11_best 51 = .ok (.getfield 176, 3) := by decide +kernel
theorem dX11_best_54 : decode cX11_best 54 = .ok (.iload_n 1, 1) := by decide +kernel
theorem dX11_best_55 : decode cX11_best 55 = .ok (.iaload, 1) := by decide +kernel
theorem dX11_best_56 : decode cX11_best 56 = .ok (.goto 5, 3) := by decide +kernel
theorem dX11_best_59 : decode cX11_best 59 = .ok (.bipush (-9), 2) := by decide +kernel
theorem dX11_best_61 : decode cX11_best 61 = .ok (.ireturn, 1) := by decide +kernel
theorem dX11_house_0 : decode cX11_house 0 = .ok (.aload_n 0, 1) := by decide +kernel
theorem dX11_house_1 : decode cX11_house 1 = .ok (.getfield 36, 3) := by decide +kernel
theorem dX11_house_4 : decode cX11_house 4 = .ok (.aload_n 0, 1) := by decide +kernel
theorem dX11_house_5 : decode cX11_house 5 = .ok (.getfield 10, 3) := by decide +kernel
theorem dX11_house_8 : decode cX11_house 8 = .ok (.invokevirtual 179, 3) := by decide +kernel
theorem dX11_house_11 : decode cX11_house 11 = .ok (.ireturn, 1) := by decide +kernel
theorem dX11_call_0 : decode cX11_call 0 = .ok (.aload_n 0, 1) := by decide +kernel
theorem dX11_call_1 : decode cX11_call 1 = .ok (.getfield 10, 3) := by decide +kernel
theorem dX11_call_4 : decode cX11_call 4 = .ok (.iload_n 1, 1) := by decide +kernel
theorem dX11_call_5 : decode cX11_call 5 = .ok (.invokevirtual 79, 3) := by decide +kernel
theorem dX11_call_8 : decode cX11_call 8 = .ok (.ifCond .ne 9, 3) := by decide +kernel
theorem dX11_call_11 : decode cX11_call 11 = .ok (.aload_n 0, 1) := by decide +kernel
theorem dX11_call_12 : decode cX11_call 12 = .ok (.iconst (-1), 1) := by decide +kernel
theorem dX11_call_13 : decode cX11_call 13 = .ok (.invokevirtual 64, 3) := by decide +kernel
theorem dX11_call_16 : decode cX11_call 16 = .ok (.ireturn, 1) := by decide +kernel
theorem dX11_call_17 : decode cX11_call 17 = .ok (.iload_n 2, 1) := by decide +kernel
theorem dX11_call_18 : decode cX11_call 18 = .ok (.ifCond .lt 7, 3) := by decide +kernel
theorem dX11_call_21 : decode cX11_call 21 = .ok (.iload_n 3, 1) := by decide +kernel
theorem dX11_call_22 : decode cX11_call 22 = .ok (.ifCond .ge 10, 3) := by decide +kernel
theorem dX11_call_25 : decode cX11_call 25 = .ok (.aload_n 0, 1) := by decide +kernel
theorem dX11_call_26 : decode cX11_call 26 = .ok (.bipush (-4), 2) := by decide +kernel
theorem dX11_call_28 : decode cX11_call 28 = .ok (.invokevirtual 64, 3) := by decide +kernel
theorem dX11_call_31 : decode cX11_call 31 = .ok (.ireturn, 1) := by decide +kernel
theorem dX11_call_32 : decode cX11_call 32 = .ok (.iload_n 2, 1) := by decide +kernel
theorem dX11_call_33 : decode cX11_call 33 = .ok (.bipush 9, 2) := by decide +kernel
theorem dX11_call_35 : decode cX11_call 35 = .ok (.if_icmp .gt 9, 3) := by decide +kernel
theorem dX11_call_38 : decode cX11_call 38 = .ok (.iload_n 3, 1) := by decide +kernel
theorem dX11_call_39 : decode cX11_call 39 = .ok (.bipush 99, 2) := by decide +kernel
theorem dX11_call_41 : decode cX11_call 41 = .ok (.if_icmp .le 10, 3) := by decide +kernel
theorem dX11_call_44 : decode cX11_call 44 = .ok (.aload_n 0, 1) := by decide +kernel
theorem dX11_call_45 : decode cX11_call 45 = .ok (.bipush (-6), 2) := by decide +kernel
theorem dX11_call_47 : decode cX11_call 47 = .ok (.invokevirtual 64, 3) := by decide +kernel
theorem dX11_call_50 : decode cX11_call 50 = .ok (.ireturn, 1) := by decide +kernel
theorem dX11_call_51 : decode cX11_call 51 = .ok (.aload_n 0, 1) := by decide +kernel
theorem dX11_call_52 : decode cX11_call 52 = .ok (.getfield 10, 3) := by decide +kernel
theorem dX11_call_55 : decode cX11_call 55 = .ok (.getfield 183, 3) := by decide +kernel
theorem dX11_call_58 : decode cX11_call 58 = .ok (.iload_n 1, 1) := by decide +kernel
theorem dX11_call_59 : decode cX11_call 59 = .ok (.iaload, 1) := by decide +kernel
theorem dX11_call_60 : decode cX11_call 60 = .ok (.istore 4, 2) := by decide +kernel
theorem dX11_call_62 : decode cX11_call 62 = .ok (.aload_n 0, 1) := by decide +kernel
theorem dX11_call_63 : decode cX11_call 63 = .ok (.getfield 10, 3) := by decide +kernel
theorem dX11_call_66 : decode cX11_call 66 = .ok (.getfield 183, 3) := by decide +kernel
theorem dX11_call_69 : decode cX11_call 69 = .ok (.iload_n 1, 1) := by decide +kernel
theorem dX11_call_70 : decode cX11_call 70 = .ok (.iload_n 2, 1) := by decide +kernel
theorem dX11_call_71 : decode cX11_call 71 = .ok (.iastore, 1) := by decide +kernel
theorem dX11_call_72 : decode cX11_call 72 = .ok (.aload_n 0, 1) := by decide +kernel
theorem dX11_call_73 : decode cX11_call 73 = .ok (.getfield 10, 3) := by decide +kernel
theorem dX11_call_76 : decode cX11_call 76 = .ok (.getfield 186, 3) := by decide +kernel
theorem dX11_call_79 : decode cX11_call 79 = .ok (.iload_n 1, 1) := by decide +kernel
theorem dX11_call_80 : decode cX11_call 80 = .ok (.iload_n 3, 1) := by decide +kernel
theorem dX11_call_81 : decode cX11_call 81 = .ok (.iastore, 1) := by decide +kernel
theorem dX11_call_82 : decode cX11_call 82 = .ok (.iload 4, 2) := by decide +kernel
theorem dX11_call_84 : decode cX11_call 84 = .ok (.ireturn, 1) := by decide +kernel
theorem dX11_calls_0 : decode cX11_calls 0 = .ok (.iload_n 3, 1) := by decide +kernel
theorem dX11_calls_1 : decode cX11_calls 1 = .ok (.ifCond .lt 8, 3) := by decide +kernel
theorem dX11_calls_4 : decode cX11_calls 4 = .ok (.iload_n 3, 1) := by decide +kernel
theorem dX11_calls_5 : decode cX11_calls 5 = .ok (.iconst 1, 1) := by decide +kernel
theorem dX11_calls_6 : decode cX11_calls 6 = .ok (.if_icmp .le 10, 3) := by decide +kernel
theorem dX11_calls_9 : decode cX11_calls 9 = .ok (.aload_n 0, 1) := by decide +kernel
theorem dX11_calls_10 : decode cX11_calls 10 = .ok (.bipush (-2), 2) := by decide +kernel
theorem dX11_calls_12 : decode cX11_calls 12 = .ok (.invokevirtual 189, 3) := by decide +kernel
theorem dX11_calls_15 : decode cX11_calls 15 = .ok (.lreturn, 1) := by decide +kernel
theorem dX11_calls_16 : decode cX11_calls 16 = .ok (.iload_n 1, 1) := by decide +kernel
theorem dX11_calls_17 : decode cX11_calls 17 = .ok (.ifCond .lt 7, 3) := by decide +kernel
theorem dX11_calls_20 : decode cX11_calls 20 = .ok (.iload_n 2, 1) := by decide +kernel
theorem dX11_calls_21 : decode cX11_calls 21 = .ok (.ifCond .ge 10, 3) := by decide +kernel
theorem dX11_calls_24 : decode cX11_calls 24 = .ok (.aload_n 0, 1) := by decide +kernel
theorem dX11_calls_25 : decode cX11_calls 25 = .ok (.bipush (-4), 2) := by decide +kernel
theorem dX11_calls_27 : decode cX11_calls 27 = .ok (.invokevirtual 189, 3) := by decide +kernel
theorem dX11_calls_30 : decode cX11_calls 30 = .ok (.lreturn, 1) := by decide +kernel
theorem dX11_calls_31 : decode cX11_calls 31 = .ok (.iload_n 1, 1) := by decide +kernel
theorem dX11_calls_32 : decode cX11_calls 32 = .ok (.sipush 999, 3) := by decide +kernel
theorem dX11_calls_35 : decode cX11_calls 35 = .ok (.if_icmp .gt 9, 3) := by decide +kernel
theorem dX11_calls_38 : decode cX11_calls 38 = .ok (.iload_n 2, 1) := by decide +kernel
theorem dX11_calls_39 : decode cX11_calls 39 = .ok (.bipush 6, 2) := by decide +kernel
theorem dX11_calls_41 : decode cX11_calls 41 = .ok (.if_icmp .le 10, 3) := by decide +kernel
theorem dX11_calls_44 : decode cX11_calls 44 = .ok (.aload_n 0, 1) := by decide +kernel
theorem dX11_calls_45 : decode cX11_calls 45 = .ok (.bipush (-6), 2) := by decide +kernel
theorem dX11_calls_47 : decode cX11_calls 47 = .ok (.invokevirtual 189, 3) := by decide +kernel
theorem dX11_calls_50 : decode cX11_calls 50 = .ok (.lreturn, 1) := by decide +kernel
theorem dX11_calls_51 : decode cX11_calls 51 = .ok (.aload_n 0, 1) := by decide +kernel
theorem dX11_calls_52 : decode cX11_calls 52 = .ok (.iload_n 1, 1) := by decide +kernel
theorem dX11_calls_53 : decode cX11_calls 53 = .ok (.iconst 2, 1) := by decide +kernel
theorem dX11_calls_54 : decode cX11_calls 54 = .ok (.idiv, 1) := by decide +kernel
theorem dX11_calls_55 : decode cX11_calls 55 = .ok (.iload_n 2, 1) := by decide +kernel
theorem dX11_calls_56 : decode cX11_calls 56 = .ok (.invokevirtual 193, 3) := by decide +kernel
theorem dX11_calls_59 : decode cX11_calls 59 = .ok (.lstore 4, 2) := by decide +kernel
theorem dX11_calls_61 : decode cX11_calls 61 = .ok (.lload 4, 2) := by decide +kernel
theorem dX11_calls_63 : decode cX11_calls 63 = .ok (.lconst 0, 1) := by decide +kernel
theorem dX11_calls_64 : decode cX11_calls 64 = .ok (.lcmp, 1) := by decide +kernel
theorem dX11_calls_65 : decode cX11_calls 65 = .ok (.ifCond .ne 6, 3) := by decide +kernel
theorem dX11_calls_68 : decode cX11_calls 68 = .ok (.iload_n 3, 1) := by decide +kernel
theorem dX11_calls_69 : decode cX11_calls 69 = .ok (.i2l, 1) := by decide +kernel
theorem dX11_calls_70 : decode cX11_calls 70 = .ok (.lreturn, 1) := by decide +kernel
theorem dX11_calls_71 : decode cX11_calls 71 = .ok (.aload_n 0, 1) := by decide +kernel
theorem dX11_calls_72 : decode cX11_calls 72 = .ok (.getfield 54, 3) := by decide +kernel
theorem dX11_calls_75 : decode cX11_calls 75 = .ok (.iload_n 1, 1) := by decide +kernel
theorem dX11_calls_76 : decode cX11_calls 76 = .ok (.iconst 2, 1) := by decide +kernel
theorem dX11_calls_77 : decode cX11_calls 77 = .ok (.idiv, 1) := by decide +kernel
theorem dX11_calls_78 : decode cX11_calls 78 = .ok (.laload, 1) := by decide +kernel
theorem dX11_calls_79 : decode cX11_calls 79 = .ok (.lstore 6, 2) := by decide +kernel
theorem dX11_calls_81 : decode cX11_calls 81 = .ok (.lload 6, 2) := by decide +kernel
theorem dX11_calls_83 : decode cX11_calls 83 = .ok (.lload 4, 2) := by decide +kernel
theorem dX11_calls_85 : decode cX11_calls 85 = .ok (.invokestatic 197, 3) := by decide +kernel
theorem dX11_calls_88 : decode cX11_calls 88 = .ok (.lstore 8, 2) := by decide +kernel
theorem dX11_calls_90 : decode cX11_calls 90 = .ok (.iload_n 3, 1) := by decide +kernel
theorem dX11_calls_91 : decode cX11_calls 91 = .ok (.ifCond .ne 8, 3) := by decide +kernel
theorem dX11_calls_94 : decode cX11_calls 94 = .ok (.lload 6, 2) := by decide +kernel
theorem dX11_calls_96 : decode cX11_calls 96 = .ok (.goto 5, 3) := by decide +kernel
theorem dX11_calls_99 : decode cX11_calls 99 = .ok (.lload 4, 2) := by decide +kernel
theorem dX11_calls_101 : decode cX11_calls 101 = .ok (.lload 8, 2) := by decide +kernel
theorem dX11_calls_103 : decode cX11_calls 103 = .ok (.ldiv, 1) := by decide +kernel
theorem dX11_calls_104 : decode cX11_calls 104 = .ok (.lreturn, 1) := by decide +kernel
theorem dX11_goes_0 : decode cX11_goes 0 = .ok (.aload_n 0, 1) := by decide +kernel
theorem dX11_goes_1 : decode cX11_goes 1 = .ok (.getfield 10, 3) := by decide +kernel
theorem dX11_goes_4 : decode cX11_goes 4 = .ok (.iload_n 3, 1) := by decide +kernel
theorem dX11_goes_5 : decode cX11_goes 5 = .ok (.invokevirtual 79, 3) := by decide +kernel
theorem dX11_goes_8 : decode cX11_goes 8 = .ok (.ifCond .ne 9, 3) := by decide +kernel
theorem dX11_goes_11 : decode cX11_goes 11 = .ok (.aload_n 0, 1) := by decide +kernel
theorem dX11_goes_12 : decode cX11_goes 12 = .ok (.iconst (-1), 1) := by decide +kernel
theorem dX11_goes_13 : decode cX11_goes 13 = .ok (.invokevirtual 64, 3) := by decide +kernel
theorem dX11_goes_16 : decode cX11_goes 16 = .ok (.ireturn, 1) := by decide +kernel
theorem dX11_goes_17 : decode cX11_goes 17 = .ok (.iload_n 1, 1) := by decide +kernel
theorem dX11_goes_18 : decode cX11_goes 18 = .ok (.ifCond .lt 8, 3) := by decide +kernel
theorem dX11_goes_21 : decode cX11_goes 21 = .ok (.iload_n 2, 1) := by decide +kernel
theorem dX11_goes_22 : decode cX11_goes 22 = .ok (.iconst 1, 1) := by decide +kernel
theorem dX11_goes_23 : decode cX11_goes 23 = .ok (.if_icmp .ge 10, 3) := by decide +kernel
theorem dX11_goes_26 : decode cX11_goes 26 = .ok (.aload_n 0, 1) := by decide +kernel
theorem dX11_goes_27 : decode cX11_goes 27 = .ok (.bipush (-4), 2) := by decide +kernel
theorem dX11_goes_29 : decode cX11_goes 29 = .ok (.invokevirtual 64, 3) := by decide +kernel
theorem dX11_goes_32 : decode cX11_goes 32 = .ok (.ireturn, 1) := by decide +kernel
theorem dX11_goes_33 : decode cX11_goes 33 = .ok (.iload_n 1, 1) := by decide +kernel
theorem dX11_goes_34 : decode cX11_goes 34 = .ok (.sipush 999, 3) := by decide +kernel
theorem dX11_goes_37 : decode cX11_goes 37 = .ok (.if_icmp .gt 9, 3) := by decide +kernel
theorem dX11_goes_40 : decode cX11_goes 40 = .ok (.iload_n 2, 1) := by decide +kernel
theorem dX11_goes_41 : decode cX11_goes 41 = .ok (.bipush 6, 2) := by decide +kernel
theorem dX11_goes_43 : decode cX11_goes 43 = .ok (.if_icmp .le 10, 3) := by decide +kernel
theorem dX11_goes_46 : decode cX11_goes 46 = .ok (.aload_n 0, 1) := by decide +kernel
theorem dX11_goes_47 : decode cX11_goes 47 = .ok (.bipush (-6), 2) := by decide +kernel
theorem dX11_goes_49 : decode cX11_goes 49 = .ok (.invokevirtual 64, 3) := by decide +kernel
theorem dX11_goes_52 : decode cX11_goes 52 = .ok (.ireturn, 1) := by decide +kernel
theorem dX11_goes_53 : decode cX11_goes 53 = .ok (.iload_n 1, 1) := by decide +kernel
theorem dX11_goes_54 : decode cX11_goes 54 = .ok (.iconst 2, 1) := by decide +kernel
theorem dX11_goes_55 : decode cX11_goes 55 = .ok (.idiv, 1) := by decide +kernel
theorem dX11_goes_56 : decode cX11_goes 56 = .ok (.istore 4, 2) := by decide +kernel
theorem dX11_goes_58 : decode cX11_goes 58 = .ok (.aload_n 0, 1) := by decide +kernel
theorem dX11_goes_59 : decode cX11_goes 59 = .ok (.getfield 10, 3) := by decide +kernel
theorem dX11_goes_62 : decode cX11_goes 62 = .ok (.aload_n 0, 1) := by decide +kernel
theorem dX11_goes_63 : decode cX11_goes 63 = .ok (.getfield 10, 3) := by decide +kernel
theorem dX11_goes_66 : decode cX11_goes 66 = .ok (.getfield 118, 3) := by decide +kernel
theorem dX11_goes_69 : decode cX11_goes 69 = .ok (.iconst 3, 1) := by decide +kernel
theorem dX11_goes_70 : decode cX11_goes 70 = .ok (.iaload, 1) := by decide +kernel
theorem dX11_goes_71 : decode cX11_goes 71 = .ok (.iload_n 3, 1) := by decide +kernel
theorem dX11_goes_72 : decode cX11_goes 72 = .ok (.invokevirtual 83, 3) := by decide +kernel
theorem dX11_goes_75 : decode cX11_goes 75 = .ok (.istore 5, 2) := by decide +kernel
theorem dX11_goes_77 : decode cX11_goes 77 = .ok (.iload 5, 2) := by decide +kernel
theorem dX11_goes_79 : decode cX11_goes 79 = .ok (.iload 4, 2) := by decide +kernel
theorem dX11_goes_81 : decode cX11_goes 81 = .ok (.if_icmp .le 5, 3) := by decide +kernel
theorem dX11_goes_84 : decode cX11_goes 84 = .ok (.iconst 0, 1) := by decide +kernel
theorem dX11_goes_85 : decode cX11_goes 85 = .ok (.ireturn, 1) := by decide +kernel
theorem dX11_goes_86 : decode cX11_goes 86 = .ok (.aload_n 0, 1) := by decide +kernel
theorem dX11_goes_87 : decode cX11_goes 87 = .ok (.iload 4, 2) := by decide +kernel
theorem dX11_goes_89 : decode cX11_goes 89 = .ok (.iload_n 2, 1) := by decide +kernel
theorem dX11_goes_90 : decode cX11_goes 90 = .ok (.iconst 1, 1) := by decide +kernel
theorem dX11_goes_91 : decode cX11_goes 91 = .ok (.isub, 1) := by decide +kernel
theorem dX11_goes_92 : decode cX11_goes 92 = .ok (.invokevirtual 193, 3) := by decide +kernel
theorem dX11_goes_95 : decode cX11_goes 95 = .ok (.lstore 6, 2) := by decide +kernel
theorem dX11_goes_97 : decode cX11_goes 97 = .ok (.aload_n 0, 1) := by decide +kernel
theorem dX11_goes_98 : decode cX11_goes 98 = .ok (.getfield 10, 3) := by decide +kernel
theorem dX11_goes_101 : decode cX11_goes 101 = .ok (.getfield 186, 3) := by decide +kernel
theorem dX11_goes_104 : decode cX11_goes 104 = .ok (.iload_n 3, 1) := by decide +kernel
theorem dX11_goes_105 : decode cX11_goes 105 = .ok (.iaload, 1) := by decide +kernel
theorem dX11_goes_106 : decode cX11_goes 106 = .ok (.i2l, 1) := by decide +kernel
theorem dX11_goes_107 : decode cX11_goes 107 = .ok (.lload 6, 2) := by decide +kernel
theorem dX11_goes_109 : decode cX11_goes 109 = .ok (.lmul, 1) := by decide +kernel
theorem dX11_goes_110 : decode cX11_goes 110 = .ok (.aload_n 0, 1) := by decide +kernel
theorem dX11_goes_111 : decode cX11_goes 111 = .ok (.getfield 54, 3) := by decide +kernel
theorem dX11_goes_114 : decode cX11_goes 114 = .ok (.iload 4, 2) := by decide +kernel
theorem dX11_goes_116 : decode cX11_goes 116 = .ok (.iload 5, 2) := by decide +kernel
theorem dX11_goes_118 : decode cX11_goes 118 = .ok (.isub, 1) := by decide +kernel
theorem dX11_goes_119 : decode cX11_goes 119 = .ok (.laload, 1) := by decide +kernel
theorem dX11_goes_120 : decode cX11_goes 120 = .ok (.ladd, 1) := by decide +kernel
theorem dX11_goes_121 : decode cX11_goes 121 = .ok (.aload_n 0, 1) := by decide +kernel
theorem dX11_goes_122 : decode cX11_goes 122 = .ok (.getfield 54, 3) := by decide +kernel
theorem dX11_goes_125 : decode cX11_goes 125 = .ok (.iload 4, 2) := by decide +kernel
theorem dX11_goes_127 : decode cX11_goes 127 = .ok (.laload, 1) := by decide +kernel
theorem dX11_goes_128 : decode cX11_goes 128 = .ok (.lcmp, 1) := by decide +kernel
theorem dX11_goes_129 : decode cX11_goes 129 = .ok (.ifCond .lt 7, 3) := by decide +kernel
theorem dX11_goes_132 : decode cX11_goes 132 = .ok (.iconst 1, 1) := by decide +kernel
theorem dX11_goes_133 : decode cX11_goes 133 = .ok (.goto 4, 3) := by decide +kernel
theorem dX11_goes_136 : decode cX11_goes 136 = .ok (.iconst 0, 1) := by decide +kernel
theorem dX11_goes_137 : decode cX11_goes 137 = .ok (.ireturn, 1) := by decide +kernel
theorem dX11_together_0 : decode cX11_together 0 = .ok (.iload_n 1, 1) := by decide +kernel
theorem dX11_together_1 : decode cX11_together 1 = .ok (.ifCond .lt 7, 3) := by decide +kernel
theorem dX11_together_4 : decode cX11_together 4 = .ok (.iload_n 2, 1) := by decide +kernel
theorem dX11_together_5 : decode cX11_together 5 = .ok (.ifCond .ge 10, 3) := by decide +kernel
theorem dX11_together_8 : decode cX11_together 8 = .ok (.aload_n 0, 1) := by decide +kernel
theorem dX11_together_9 : decode cX11_together 9 = .ok (.bipush (-4), 2) := by decide +kernel
theorem dX11_together_11 : decode cX11_together 11 = .ok (.invokevirtual 64, 3) := by decide +kernel
theorem dX11_together_14 : decode cX11_together 14 = .ok (.ireturn, 1) := by decide +kernel
theorem dX11_together_15 : decode cX11_together 15 = .ok (.iload_n 1, 1) := by decide +kernel
theorem dX11_together_16 : decode cX11_together 16 = .ok (.sipush 999, 3) := by decide +kernel
theorem dX11_together_19 : decode cX11_together 19 = .ok (.if_icmp .gt 10, 3) := by decide +kernel
theorem dX11_together_22 : decode cX11_together 22 = .ok (.iload_n 2, 1) := by decide +kernel
theorem dX11_together_23 : decode cX11_together 23 = .ok (.sipush 999, 3) := by decide +kernel
theorem dX11_together_26 : decode cX11_together 26 = .ok (.if_icmp .le 10, 3) := by decide +kernel
theorem dX11_together_29 : decode cX11_together 29 = .ok (.aload_n 0, 1) := by decide +kernel
theorem dX11_together_30 : decode cX11_together 30 = .ok (.bipush (-6), 2) := by decide +kernel
theorem dX11_together_32 : decode cX11_together 32 = .ok (.invokevirtual 64, 3) := by decide +kernel
theorem dX11_together_35 : decode cX11_together 35 = .ok (.ireturn, 1) := by decide +kernel
theorem dX11_together_36 : decode cX11_together 36 = .ok (.iload_n 1, 1) := by decide +kernel
theorem dX11_together_37 : decode cX11_together 37 = .ok (.iload_n 2, 1) := by decide +kernel
theorem dX11_together_38 : decode cX11_together 38 = .ok (.invokestatic 201, 3) := by decide +kernel
theorem dX11_together_41 : decode cX11_together 41 = .ok (.istore_n 3, 1) := by decide +kernel
theorem dX11_together_42 : decode cX11_together 42 = .ok (.aload_n 0, 1) := by decide +kernel
theorem dX11_together_43 : decode cX11_together 43 = .ok (.getfield 10, 3) := by decide +kernel
theorem dX11_together_46 : decode cX11_together 46 = .ok (.getfield 118, 3) := by decide +kernel
theorem dX11_together_49 : decode cX11_together 49 = .ok (.iconst 3, 1) := by decide +kernel
theorem dX11_together_50 : decode cX11_together 50 = .ok (.iaload, 1) := by decide +kernel
theorem dX11_together_51 : decode cX11_together 51 = .ok (.istore 4, 2) := by decide +kernel
theorem dX11_together_53 : decode cX11_together 53 = .ok (.iconst 0, 1) := by decide +kernel
theorem dX11_together_54 : decode cX11_together 54 = .ok (.istore 5, 2) := by decide +kernel
theorem dX11_together_56 : decode cX11_together 56 = .ok (.iconst 0, 1) := by decide +kernel
theorem dX11_together_57 : decode cX11_together 57 = .ok (.istore 6, 2) := by decide +kernel
theorem dX11_together_59 : decode cX11_together 59 = .ok (.iload 6, 2) := by decide +kernel
theorem dX11_together_61 : decode cX11_together 61 = .ok (.aload_n 0, 1) := by decide +kernel
theorem dX11_together_62 : decode cX11_together 62 = .ok (.getfield 10, 3) := by decide +kernel
theorem dX11_together_65 : decode cX11_together 65 = .ok (.getfield 155, 3) := by decide +kernel
theorem dX11_together_68 : decode cX11_together 68 = .ok (.if_icmp .ge 77, 3) := by decide +kernel
theorem dX11_together_71 : decode cX11_together 71 = .ok (.aload_n 0, 1) := by decide +kernel
theorem dX11_together_72 : decode cX11_together 72 = .ok (.getfield 10, 3) := by decide +kernel
theorem dX11_together_75 : decode cX11_together 75 = .ok (.iload 4, 2) := by decide +kernel
theorem dX11_together_77 : decode cX11_together 77 = .ok (.aload_n 0, 1) := by decide +kernel
theorem dX11_together_78 : decode cX11_together 78 = .ok (.getfield 10, 3) := by decide +kernel
theorem dX11_together_81 : decode cX11_together 81 = .ok (.getfield 158, 3) := by decide +kernel
theorem dX11_together_84 : decode cX11_together 84 = .ok (.iload 6, 2) := by decide +kernel
theorem dX11_together_86 : decode cX11_together 86 = .ok (.iaload, 1) := by decide +kernel
theorem dX11_together_87 : decode cX11_together 87 = .ok (.invokevirtual 83, 3) := by decide +kernel
theorem dX11_together_90 : decode cX11_together 90 = .ok (.istore 7, 2) := by decide +kernel
theorem dX11_together_92 : decode cX11_together 92 = .ok (.iload 7, 2) := by decide +kernel
theorem dX11_together_94 : decode cX11_together 94 = .ok (.ldc 87, 2) := by decide +kernel
theorem dX11_together_96 : decode cX11_together 96 = .ok (.if_icmp .ge 43, 3) := by decide +kernel
theorem dX11_together_99 : decode cX11_together 99 = .ok (.iload_n 3, 1) := by decide +kernel
theorem dX11_together_100 : decode cX11_together 100 = .ok (.iload 7, 2) := by decide +kernel
theorem dX11_together_102 : decode cX11_together 102 = .ok (.iadd, 1) := by decide +kernel
theorem dX11_together_103 : decode cX11_together 103 = .ok (.istore_n 3, 1) := by decide +kernel
theorem dX11_together_104 : decode cX11_together 104 = .ok (.aload_n 0, 1) := by decide +kernel
theorem dX11_together_105 : decode cX11_together 105 = .ok (.getfield 10, 3) := by decide +kernel
theorem dX11_together_108 : decode cX11_together 108 = .ok (.getfield 158, 3) := by decide +kernel
theorem dX11_together_111 : decode cX11_together 111 = .ok (.iload 6, 2) := by decide +kernel
theorem dX11_together_113 : decode cX11_together 113 = .ok (.iaload, 1) := by decide +kernel
theorem dX11_together_114 : decode cX11_together 114 = .ok (.istore 4, 2) := by decide +kernel
theorem dX11_together_116 : decode cX11_together 116 = .ok (.iload 5, 2) := by decide +kernel
theorem dX11_together_118 : decode cX11_together 118 = .ok (.iload_n 3, 1) := by decide +kernel
theorem dX11_together_119 : decode cX11_together 119 = .ok (.aload_n 0, 1) := by decide +kernel
theorem dX11_together_120 : decode cX11_together 120 = .ok (.getfield 10, 3) := by decide +kernel
theorem dX11_together_123 : decode cX11_together 123 = .ok (.getfield 118, 3) := by decide +kernel
theorem dX11_together_126 : decode cX11_together 126 = .ok (.iconst 2, 1) := by decide +kernel
theorem dX11_together_127 : decode cX11_together 127 = .ok (.iaload, 1) := by decide +kernel
theorem dX11_together_128 : decode cX11_together 128 = .ok (.if_icmp .gt 7, 3) := by decide +kernel
theorem dX11_together_131 : decode cX11_together 131 = .ok (.iconst 1, 1) := by decide +kernel
theorem dX11_together_132 : decode cX11_together 132 = .ok (.goto 4, 3) := by decide +kernel
theorem dX11_together_135 : decode cX11_together 135 = .ok (.iconst 0, 1) := by decide +kernel
theorem dX11_together_136 : decode cX11_together 136 = .ok (.iadd, 1) := by decide +kernel
theorem dX11_together_137 : decode cX11_together 137 = .ok (.istore 5, 2) := by decide +kernel
theorem dX11_together_139 : decode cX11_together 139 = .ok (.iinc 6 1, 3) := by decide +kernel
theorem dX11_together_142 : decode cX11_together 142 = .ok (.goto (-83), 3) := by decide +kernel
theorem dX11_together_145 : decode cX11_together 145 = .ok (.iload 5, 2) := by decide +kernel
theorem dX11_together_147 : decode cX11_together 147 = .ok (.ireturn, 1) := by decide +kernel
theorem dX11_child_0 : decode cX11_child 0 = .ok (.iload_n 1, 1) := by decide +kernel
theorem dX11_child_1 : decode cX11_child 1 = .ok (.ifCond .lt 11, 3) := by decide +kernel
theorem dX11_child_4 : decode cX11_child 4 = .ok (.iload_n 2, 1) := by decide +kernel
theorem dX11_child_5 : decode cX11_child 5 = .ok (.ifCond .lt 7, 3) := by decide +kernel
theorem dX11_child_8 : decode cX11_child 8 = .ok (.iload_n 3, 1) := by decide +kernel
theorem dX11_child_9 : decode cX11_child 9 = .ok (.ifCond .ge 10, 3) := by decide +kernel
theorem dX11_child_12 : decode cX11_child 12 = .ok (.aload_n 0, 1) := by decide +kernel
theorem dX11_child_13 : decode cX11_child 13 = .ok (.bipush (-4), 2) := by decide +kernel
theorem dX11_child_15 : decode cX11_child 15 = .ok (.invokevirtual 64, 3) := by decide +kernel
theorem dX11_child_18 : decode cX11_child 18 = .ok (.ireturn, 1) := by decide +kernel
theorem dX11_child_19 : decode cX11_child 19 = .ok (.iload_n 1, 1) := by decide +kernel
theorem dX11_child_20 : decode cX11_child 20 = .ok (.sipush 999, 3) := by decide +kernel
theorem dX11_child_23 : decode cX11_child 23 = .ok (.if_icmp .gt 17, 3) := by decide +kernel
theorem dX11_child_26 : decode cX11_child 26 = .ok (.iload_n 2, 1) := by decide +kernel
theorem dX11_child_27 : decode cX11_child 27 = .ok (.sipush 999, 3) := by decide +kernel
theorem dX11_child_30 : decode cX11_child 30 = .ok (.if_icmp .gt 10, 3) := by decide +kernel
theorem dX11_child_33 : decode cX11_child 33 = .ok (.iload_n 3, 1) := by decide +kernel
theorem dX11_child_34 : decode cX11_child 34 = .ok (.sipush 999, 3) := by decide +kernel
theorem dX11_child_37 : decode cX11_child 37 = .ok (.if_icmp .le 10, 3) := by decide +kernel
theorem dX11_child_40 : decode cX11_child 40 = .ok (.aload_n 0, 1) := by decide +kernel
theorem dX11_child_41 : decode cX11_child 41 = .ok (.bipush (-6), 2) := by decide +kernel
theorem dX11_child_43 : decode cX11_child 43 = .ok (.invokevirtual 64, 3) := by decide +kernel
theorem dX11_child_46 : decode cX11_child 46 = .ok (.ireturn, 1) := by decide +kernel
theorem dX11_child_47 : decode cX11_child 47 = .ok (.iload_n 1, 1) := by decide +kernel
theorem dX11_child_48 : decode cX11_child 48 = .ok (.iload_n 2, 1) := by decide +kernel
theorem dX11_child_49 : decode cX11_child 49 = .ok (.iadd, 1) := by decide +kernel
theorem dX11_child_50 : decode cX11_child 50 = .ok (.iload_n 3, 1) := by decide +kernel
theorem dX11_child_51 : decode cX11_child 51 = .ok (.isub, 1) := by decide +kernel
theorem dX11_child_52 : decode cX11_child 52 = .ok (.istore 4, 2) := by decide +kernel
theorem dX11_child_54 : decode cX11_child 54 = .ok (.iload 4, 2) := by decide +kernel
theorem dX11_child_56 : decode cX11_child 56 = .ok (.ifCond .ge 8, 3) := by decide +kernel
theorem dX11_child_59 : decode cX11_child 59 = .ok (.bipush (-9), 2) := by decide +kernel
theorem dX11_child_61 : decode cX11_child 61 = .ok (.goto 15, 3) := by decide +kernel
theorem dX11_child_64 : decode cX11_child 64 = .ok (.iload_n 1, 1) := by decide +kernel
theorem dX11_child_65 : decode cX11_child 65 = .ok (.iload_n 2, 1) := by decide +kernel
theorem dX11_child_66 : decode cX11_child 66 = .ok (.invokestatic 206, 3) := by decide +kernel
theorem dX11_child_69 : decode cX11_child 69 = .ok (.iload 4, 2) := by decide +kernel
theorem dX11_child_71 : decode cX11_child 71 = .ok (.iconst 2, 1) := by decide +kernel
theorem dX11_child_72 : decode cX11_child 72 = .ok (.idiv, 1) := by decide +kernel
theorem dX11_child_73 : decode cX11_child 73 = .ok (.invokestatic 206, 3) := by decide +kernel
theorem dX11_child_76 : decode cX11_child 76 = .ok (.ireturn, 1) := by decide +kernel
theorem dX11_person_0 : decode cX11_person 0 = .ok (.aload_n 0, 1) := by decide +kernel
theorem dX11_person_1 : decode cX11_person 1 = .ok (.getfield 10, 3) := by decide +kernel
theorem dX11_person_4 : decode cX11_person 4 = .ok (.iload_n 1, 1) := by decide +kernel
theorem dX11_person_5 : decode cX11_person 5 = .ok (.invokevirtual 79, 3) := by decide +kernel
theorem dX11_person_8 : decode cX11_person 8 = .ok (.ifCond .ne 9, 3) := by decide +kernel
theorem dX11_person_11 : decode cX11_person 11 = .ok (.aload_n 0, 1) := by decide +kernel
theorem dX11_person_12 : decode cX11_person 12 = .ok (.iconst (-1), 1) := by decide +kernel
theorem dX11_person_13 : decode cX11_person 13 = .ok (.invokevirtual 64, 3) := by decide +kernel
theorem dX11_person_16 : decode cX11_person 16 = .ok (.ireturn, 1) := by decide +kernel
theorem dX11_person_17 : decode cX11_person 17 = .ok (.iload_n 2, 1) := by decide +kernel
theorem dX11_person_18 : decode cX11_person 18 = .ok (.ifCond .ge 10, 3) := by decide +kernel
theorem dX11_person_21 : decode cX11_person 21 = .ok (.aload_n 0, 1) := by decide +kernel
theorem dX11_person_22 : decode cX11_person 22 = .ok (.bipush (-4), 2) := by decide +kernel
theorem dX11_person_24 : decode cX11_person 24 = .ok (.invokevirtual 64, 3) := by decide +kernel
theorem dX11_person_27 : decode cX11_person 27 = .ok (.ireturn, 1) := by decide +kernel
theorem dX11_person_28 : decode cX11_person 28 = .ok (.iload_n 2, 1) := by decide +kernel
theorem dX11_person_29 : decode cX11_person 29 = .ok (.sipush 999, 3) := by decide +kernel
theorem dX11_person_32 : decode cX11_person 32 = .ok (.if_icmp .gt 14, 3) := by decide +kernel
theorem dX11_person_35 : decode cX11_person 35 = .ok (.aload_n 0, 1) := by decide +kernel
theorem dX11_person_36 : decode cX11_person 36 = .ok (.getfield 10, 3) := by decide +kernel
theorem dX11_person_39 : decode cX11_person 39 = .ok (.getfield 209, 3) := by decide +kernel
theorem dX11_person_42 : decode cX11_person 42 = .ok (.iconst 4, 1) := by decide +kernel
theorem dX11_person_43 : decode cX11_person 43 = .ok (.if_icmp .lt 10, 3) := by decide +kernel
theorem dX11_person_46 : decode cX11_person 46 = .ok (.aload_n 0, 1) := by decide +kernel
theorem dX11_person_47 : decode cX11_person 47 = .ok (.bipush (-6), 2) := by decide +kernel
theorem dX11_person_49 : decode cX11_person 49 = .ok (.invokevirtual 64, 3) := by decide +kernel
theorem dX11_person_52 : decode cX11_person 52 = .ok (.ireturn, 1) := by decide +kernel
theorem dX11_person_53 : decode cX11_person 53 = .ok (.aload_n 0, 1) := by decide +kernel
theorem dX11_person_54 : decode cX11_person 54 = .ok (.getfield 10, 3) := by decide +kernel
theorem dX11_person_57 : decode cX11_person 57 = .ok (.getfield 212, 3) := by decide +kernel
theorem dX11_person_60 : decode cX11_person 60 = .ok (.aload_n 0, 1) := by decide +kernel
theorem dX11_person_61 : decode cX11_person 61 = .ok (.getfield 10, 3) := by decide +kernel
theorem dX11_person_64 : decode cX11_person 64 = .ok (.getfield 209, 3) := by decide +kernel
theorem dX11_person_67 : decode cX11_person 67 = .ok (.iload_n 1, 1) := by decide +kernel
theorem dX11_person_68 : decode cX11_person 68 = .ok (.iastore, 1) := by decide +kernel
theorem dX11_person_69 : decode cX11_person 69 = .ok (.aload_n 0, 1) := by decide +kernel
theorem dX11_person_70 : decode cX11_person 70 = .ok (.getfield 10, 3) := by decide +kernel
theorem dX11_person_73 : decode cX11_person 73 = .ok (.getfield 215, 3) := by decide +kernel
theorem dX11_person_76 : decode cX11_person 76 = .ok (.aload_n 0, 1) := by decide +kernel
theorem dX11_person_77 : decode cX11_person 77 = .ok (.getfield 10, 3) := by decide +kernel
theorem dX11_person_80 : decode cX11_person 80 = .ok (.getfield 209, 3) := by decide +kernel
theorem dX11_person_83 : decode cX11_person 83 = .ok (.iload_n 2, 1) := by decide +kernel
theorem dX11_person_84 : decode cX11_person 84 = .ok (.iastore, 1) := by decide +kernel
theorem dX11_person_85 : decode cX11_person 85 = .ok (.aload_n 0, 1) := by decide +kernel
theorem dX11_person_86 : decode cX11_person 86 = .ok (.getfield 10, 3) := by decide +kernel
theorem dX11_person_89 : decode cX11_person 89 = .ok (.dup, 1) := by decide +kernel
theorem dX11_person_90 : decode cX11_person 90 = .ok (.getfield 209, 3) := by decide +kernel
theorem dX11_person_93 : decode cX11_person 93 = .ok (.iconst 1, 1) := by decide +kernel
theorem dX11_person_94 : decode cX11_person 94 = .ok (.iadd, 1) := by decide +kernel
theorem dX11_person_95 : decode cX11_person 95 = .ok (.putfield 209, 3) := by decide +kernel
theorem dX11_person_98 : decode cX11_person 98 = .ok (.aload_n 0, 1) := by decide +kernel
theorem dX11_person_99 : decode cX11_person 99 = .ok (.getfield 10, 3) := by decide +kernel
theorem dX11_person_102 : decode cX11_person 102 = .ok (.getfield 209, 3) := by decide +kernel
theorem dX11_person_105 : decode cX11_person 105 = .ok (.ireturn, 1) := by decide +kernel
theorem dX11_send_0 : decode cX11_send 0 = .ok (.aload_n 0, 1) := by decide +kernel
theorem dX11_send_1 : decode cX11_send 1 = .ok (.getfield 10, 3) := by decide +kernel
theorem dX11_send_4 : decode cX11_send 4 = .ok (.iload_n 1, 1) := by decide +kernel
theorem dX11_send_5 : decode cX11_send 5 = .ok (.invokevirtual 79, 3) := by decide +kernel
theorem dX11_send_8 : decode cX11_send 8 = .ok (.ifCond .ne 9, 3) := by decide +kernel
theorem dX11_send_11 : decode cX11_send 11 = .ok (.aload_n 0, 1) := by decide +kernel
theorem dX11_send_12 : decode cX11_send 12 = .ok (.iconst (-1), 1) := by decide +kernel
theorem dX11_send_13 : decode cX11_send 13 = .ok (.invokevirtual 64, 3) := by decide +kernel
theorem dX11_send_16 : decode cX11_send 16 = .ok (.ireturn, 1) := by decide +kernel
theorem dX11_send_17 : decode cX11_send 17 = .ok (.iload_n 2, 1) := by decide +kernel
theorem dX11_send_18 : decode cX11_send 18 = .ok (.ifCond .lt 8, 3) := by decide +kernel
theorem dX11_send_21 : decode cX11_send 21 = .ok (.iload_n 2, 1) := by decide +kernel
theorem dX11_send_22 : decode cX11_send 22 = .ok (.iconst 1, 1) := by decide +kernel
theorem dX11_send_23 : decode cX11_send 23 = .ok (.if_icmp .le 10, 3) := by decide +kernel
theorem dX11_send_26 : decode cX11_send 26 = .ok (.aload_n 0, 1) := by decide +kernel
theorem dX11_send_27 : decode cX11_send 27 = .ok (.bipush (-2), 2) := by decide +kernel
theorem dX11_send_29 : decode cX11_send 29 = .ok (.invokevirtual 64, 3) := by decide +kernel
theorem dX11_send_32 : decode cX11_send 32 = .ok (.ireturn, 1) := by decide +kernel
theorem dX11_send_33 : decode cX11_send 33 = .ok (.bipush (-9), 2) := by decide +kernel
theorem dX11_send_35 : decode cX11_send 35 = .ok (.istore_n 3, 1) := by decide +kernel
theorem dX11_send_36 : decode cX11_send 36 = .ok (.bipush (-9), 2) := by decide +kernel
theorem dX11_send_38 : decode cX11_send 38 = .ok (.istore 4, 2) := by decide +kernel
theorem dX11_send_40 : decode cX11_send 40 = .ok (.iconst 0, 1) := by decide +kernel
theorem dX11_send_41 : decode cX11_send 41 = .ok (.istore 5, 2) := by decide +kernel
theorem dX11_send_43 : decode cX11_send 43 = .ok (.iload 5, 2) := by decide +kernel
theorem dX11_send_45 : decode cX11_send 45 = .ok (.aload_n 0, 1) := by decide +kernel
theorem dX11_send_46 : decode cX11_send 46 = .ok (.getfield 10, 3) := by decide +kernel
theorem dX11_send_49 : decode cX11_send 49 = .ok (.getfield 209, 3) := by decide +kernel
theorem dX11_send_52 : decode cX11_send 52 = .ok (.if_icmp .ge 41, 3) := by decide +kernel
theorem dX11_send_55 : decode cX11_send 55 = .ok (.aload_n 0, 1) := by decide +kernel
theorem dX11_send_56 : decode cX11_send 56 = .ok (.iload 5, 2) := by decide +kernel
theorem dX11_send_58 : decode cX11_send 58 = .ok (.iload_n 1, 1) := by decide +kernel
theorem dX11_send_59 : decode cX11_send 59 = .ok (.invokevirtual 218, 3) := by decide +kernel
theorem dX11_send_62 : decode cX11_send 62 = .ok (.istore 6, 2) := by decide +kernel
theorem dX11_send_64 : decode cX11_send 64 = .ok (.iload 6, 2) := by decide +kernel
theorem dX11_send_66 : decode cX11_send 66 = .ok (.ifCond .lt 21, 3) := by decide +kernel
theorem dX11_send_69 : decode cX11_send 69 = .ok (.iload_n 3, 1) := by decide +kernel
theorem dX11_send_70 : decode cX11_send 70 = .ok (.ifCond .lt 10, 3) := by decide +kernel
theorem dX11_send_73 : decode cX11_send 73 = .ok (.iload 6, 2) := by decide +kernel
theorem dX11_send_75 : decode cX11_send 75 = .ok (.iload 4, 2) := by decide +kernel
theorem dX11_send_77 : decode cX11_send 77 = .ok (.if_icmp .ge 10, 3) := by decide +kernel
theorem dX11_send_80 : decode cX11_send 80 = .ok (.iload 5, 2) := by decide +kernel
theorem dX11_send_82 : decode cX11_send 82 = .ok (.istore_n 3, 1) := by decide +kernel
theorem dX11_send_83 : decode cX11_send 83 = .ok (.iload 6, 2) := by decide +kernel
theorem dX11_send_85 : decode cX11_send 85 = .ok (.istore 4, 2) := by decide +kernel
theorem dX11_send_87 : decode cX11_send 87 = .ok (.iinc 5 1, 3) := by decide +kernel
theorem dX11_send_90 : decode cX11_send 90 = .ok (.goto (-47), 3) := by decide +kernel
theorem dX11_send_93 : decode cX11_send 93 = .ok (.iload_n 2, 1) := by decide +kernel
theorem dX11_send_94 : decode cX11_send 94 = .ok (.ifCond .ne 7, 3) := by decide +kernel
theorem dX11_send_97 : decode cX11_send 97 = .ok (.iload_n 3, 1) := by decide +kernel
theorem dX11_send_98 : decode cX11_send 98 = .ok (.goto 5, 3) := by decide +kernel
theorem dX11_send_101 : decode cX11_send 101 = .ok (.iload 4, 2) := by decide +kernel
theorem dX11_send_103 : decode cX11_send 103 = .ok (.ireturn, 1) := by decide +kernel
theorem dX11_wells_0 : decode cX11_wells 0 = .ok (.iload_n 1, 1) := by decide +kernel
theorem dX11_wells_1 : decode cX11_wells 1 = .ok (.iconst 1, 1) := by decide +kernel
theorem dX11_wells_2 : decode cX11_wells 2 = .ok (.if_icmp .ge 10, 3) := by decide +kernel
theorem dX11_wells_5 : decode cX11_wells 5 = .ok (.aload_n 0, 1) := by decide +kernel
theorem dX11_wells_6 : decode cX11_wells 6 = .ok (.bipush (-4), 2) := by decide +kernel
theorem dX11_wells_8 : decode cX11_wells 8 = .ok (.invokevirtual 64, 3) := by decide +kernel
theorem dX11_wells_11 : decode cX11_wells 11 = .ok (.ireturn, 1) := by decide +kernel
theorem dX11_wells_12 : decode cX11_wells 12 = .ok (.iload_n 1, 1) := by decide +kernel
theorem dX11_wells_13 : decode cX11_wells 13 = .ok (.iconst 3, 1) := by decide +kernel
theorem dX11_wells_14 : decode cX11_wells 14 = .ok (.if_icmp .gt 14, 3) := by decide +kernel
theorem dX11_wells_17 : decode cX11_wells 17 = .ok (.iload_n 1, 1) := by decide +kernel
theorem dX11_wells_18 : decode cX11_wells 18 = .ok (.aload_n 0, 1) := by decide +kernel
theorem dX11_wells_19 : decode cX11_wells 19 = .ok (.getfield 10, 3) := by decide +kernel
theorem dX11_wells_22 : decode cX11_wells 22 = .ok (.getfield 221, 3) := by decide +kernel
theorem dX11_wells_25 : decode cX11_wells 25 = .ok (.if_icmp .le 10, 3) := by decide +kernel
theorem dX11_wells_28 : decode cX11_wells 28 = .ok (.aload_n 0, 1) := by decide +kernel
theorem dX11_wells_29 : decode cX11_wells 29 = .ok (.bipush (-6), 2) := by decide +kernel
theorem dX11_wells_31 : decode cX11_wells 31 = .ok (.invokevirtual 64, 3) := by decide +kernel
theorem dX11_wells_34 : decode cX11_wells 34 = .ok (.ireturn, 1) := by decide +kernel
theorem dX11_wells_35 : decode cX11_wells 35 = .ok (.iconst 0, 1) := by decide +kernel
theorem dX11_wells_36 : decode cX11_wells 36 = .ok (.istore_n 2, 1) := by decide +kernel
theorem dX11_wells_37 : decode cX11_wells 37 = .ok (.iconst 0, 1) := by decide +kernel
theorem dX11_wells_38 : decode cX11_wells 38 = .ok (.istore_n 3, 1) := by decide +kernel
theorem dX11_wells_39 : decode cX11_wells 39 = .ok (.iconst 1, 1) := by decide +kernel
theorem dX11_wells_40 : decode cX11_wells 40 = .ok (.istore 4, 2) := by decide +kernel
theorem dX11_wells_42 : decode cX11_wells 42 = .ok (.iload 4, 2) := by decide +kernel
theorem dX11_wells_44 : decode cX11_wells 44 = .ok (.iconst 1, 1) := by decide +kernel
theorem dX11_wells_45 : decode cX11_wells 45 = .ok (.aload_n 0, 1) := by decide +kernel
theorem dX11_wells_46 : decode cX11_wells 46 = .ok (.getfield 10, 3) := by decide +kernel
theorem dX11_wells_49 : decode cX11_wells 49 = .ok (.getfield 221, 3) := by decide +kernel
theorem dX11_wells_52 : decode cX11_wells 52 = .ok (.ishl, 1) := by decide +kernel
theorem dX11_wells_53 : decode cX11_wells 53 = .ok (.if_icmp .ge 42, 3) := by decide +kernel
theorem dX11_wells_56 : decode cX11_wells 56 = .ok (.iload 4, 2) := by decide +kernel
theorem dX11_wells_58 : decode cX11_wells 58 = .ok (.invokestatic 224, 3) := by decide +kernel
theorem dX11_wells_61 : decode cX11_wells 61 = .ok (.iload_n 1, 1) := by decide +kernel
theorem dX11_wells_62 : decode cX11_wells 62 = .ok (.if_icmp .ne 27, 3) := by decide +kernel
theorem dX11_wells_65 : decode cX11_wells 65 = .ok (.aload_n 0, 1) := by decide +kernel
theorem dX11_wells_66 : decode cX11_wells 66 = .ok (.iload 4, 2) := by decide +kernel
theorem dX11_wells_68 : decode cX11_wells 68 = .ok (.invokevirtual 229, 3) := by decide +kernel
theorem dX11_wells_71 : decode cX11_wells 71 = .ok (.istore 5, 2) := by decide +kernel
theorem dX11_wells_73 : decode cX11_wells 73 = .ok (.iload_n 2, 1) := by decide +kernel
theorem dX11_wells_74 : decode cX11_wells 74 = .ok (.ifCond .eq 9, 3) := by decide +kernel
theorem dX11_wells_77 : decode cX11_wells 77 = .ok (.iload 5, 2) := by decide +kernel
theorem dX11_wells_79 : decode cX11_wells 79 = .ok (.iload_n 3, 1) := by decide +kernel
theorem dX11_wells_80 : decode cX11_wells 80 = .ok (.if_icmp .ge 9, 3) := by decide +kernel
theorem dX11_wells_83 : decode cX11_wells 83 = .ok (.iload 4, 2) := by decide +kernel
theorem dX11_wells_85 : decode cX11_wells 85 = .ok (.istore_n 2, 1) := by decide +kernel
theorem dX11_wells_86 : decode cX11_wells 86 = .ok (.iload 5, 2) := by decide +kernel
theorem dX11_wells_88 : decode cX11_wells 88 = .ok (.istore_n 3, 1) := by decide +kernel
theorem dX11_wells_89 : decode cX11_wells 89 = .ok (.iinc 4 1, 3) := by decide +kernel
theorem dX11_wells_92 : decode cX11_wells 92 = .ok (.goto (-50), 3) := by decide +kernel
theorem dX11_wells_95 : decode cX11_wells 95 = .ok (.iload_n 2, 1) := by decide +kernel
theorem dX11_wells_96 : decode cX11_wells 96 = .ok (.ireturn, 1) := by decide +kernel
theorem dX11_many_0 : decode cX11_many 0 = .ok (.iload_n 1, 1) := by decide +kernel
theorem dX11_many_1 : decode cX11_many 1 = .ok (.ifCond .lt 17, 3) := by decide +kernel
theorem dX11_many_4 : decode cX11_many 4 = .ok (.iload_n 2, 1) := by decide +kernel
theorem dX11_many_5 : decode cX11_many 5 = .ok (.ifCond .lt 13, 3) := by decide +kernel
theorem dX11_many_8 : decode cX11_many 8 = .ok (.iload_n 3, 1) := by decide +kernel
theorem dX11_many_9 : decode cX11_many 9 = .ok (.iconst 1, 1) := by decide +kernel
theorem dX11_many_10 : decode cX11_many 10 = .ok (.if_icmp .lt 8, 3) := by decide +kernel
theorem dX11_many_13 : decode cX11_many 13 = .ok (.iload 4, 2) := by decide +kernel
theorem dX11_many_15 : decode cX11_many 15 = .ok (.ifCond .ge 10, 3) := by decide +kernel
theorem dX11_many_18 : decode cX11_many 18 = .ok (.aload_n 0, 1) := by decide +kernel
theorem dX11_many_19 : decode cX11_many 19 = .ok (.bipush (-4), 2) := by decide +kernel
theorem dX11_many_21 : decode cX11_many 21 = .ok (.invokevirtual 189, 3) := by decide +kernel
theorem dX11_many_24 : decode cX11_many 24 = .ok (.lreturn, 1) := by decide +kernel
theorem dX11_many_25 : decode cX11_many 25 = .ok (.iload_n 1, 1) := by decide +kernel
theorem dX11_many_26 : decode cX11_many 26 = .ok (.sipush 999, 3) := by decide +kernel
theorem dX11_many_29 : decode cX11_many 29 = .ok (.if_icmp .gt 22, 3) := by decide +kernel
theorem dX11_many_32 : decode cX11_many 32 = .ok (.iload_n 2, 1) := by decide +kernel
theorem dX11_many_33 : decode cX11_many 33 = .ok (.bipush 9, 2) := by decide +kernel
theorem dX11_many_35 : decode cX11_many 35 = .ok (.if_icmp .gt 16, 3) := by decide +kernel
theorem dX11_many_38 : decode cX11_many 38 = .ok (.iload_n 3, 1) := by decide +kernel
theorem dX11_many_39 : decode cX11_many 39 = .ok (.bipush 9, 2) := by decide +kernel
theorem dX11_many_41 : decode cX11_many 41 = .ok (.if_icmp .gt 10, 3) := by decide +kernel
theorem dX11_many_44 : decode cX11_many 44 = .ok (.iload 4, 2) := by decide +kernel
theorem dX11_many_46 : decode cX11_many 46 = .ok (.bipush 15, 2) := by decide +kernel
theorem dX11_many_48 : decode cX11_many 48 = .ok (.if_icmp .le 10, 3) := by decide +kernel
theorem dX11_many_51 : decode cX11_many 51 = .ok (.aload_n 0, 1) := by decide +kernel
theorem dX11_many_52 : decode cX11_many 52 = .ok (.bipush (-6), 2) := by decide +kernel
theorem dX11_many_54 : decode cX11_many 54 = .ok (.invokevirtual 189, 3) := by decide +kernel
theorem dX11_many_57 : decode cX11_many 57 = .ok (.lreturn, 1) := by decide +kernel
theorem dX11_many_58 : decode cX11_many 58 = .ok (.aload_n 0, 1) := by decide +kernel
theorem dX11_many_59 : decode cX11_many 59 = .ok (.getfield 58, 3) := by decide +kernel
theorem dX11_many_62 : decode cX11_many 62 = .ok (.iconst 0, 1) := by decide +kernel
theorem dX11_many_63 : decode cX11_many 63 = .ok (.iload_n 1, 1) := by decide +kernel
theorem dX11_many_64 : decode cX11_many 64 = .ok (.i2l, 1) := by decide +kernel
theorem dX11_many_65 : decode cX11_many 65 = .ok (.lastore, 1) := by decide +kernel
theorem dX11_many_66 : decode cX11_many 66 = .ok (.iconst 1, 1) := by decide +kernel
theorem dX11_many_67 : decode cX11_many 67 = .ok (.istore 5, 2) := by decide +kernel
theorem dX11_many_69 : decode cX11_many 69 = .ok (.iload 5, 2) := by decide +kernel
theorem dX11_many_71 : decode cX11_many 71 = .ok (.iload 4, 2) := by decide +kernel
theorem dX11_many_73 : decode cX11_many 73 = .ok (.if_icmp .gt 48, 3) := by decide +kernel
theorem dX11_many_76 : decode cX11_many 76 = .ok (.aload_n 0, 1) := by decide +kernel
theorem dX11_many_77 : decode cX11_many 77 = .ok (.getfield 58, 3) := by decide +kernel
theorem dX11_many_80 : decode cX11_many 80 = .ok (.iload 5, 2) := by decide +kernel
theorem dX11_many_82 : decode cX11_many 82 = .ok (.aload_n 0, 1) := by decide +kernel
theorem dX11_many_83 : decode cX11_many 83 = .ok (.getfield 58, 3) := by decide +kernel
theorem dX11_many_86 : decode cX11_many 86 = .ok (.iload 5, 2) := by decide +kernel
theorem dX11_many_88 : decode cX11_many 88 = .ok (.iconst 1, 1) := by decide +kernel
theorem dX11_many_89 : decode cX11_many 89 = .ok (.isub, 1) := by decide +kernel
theorem dX11_many_90 : decode cX11_many 90 = .ok (.laload, 1) := by decide +kernel
theorem dX11_many_91 : decode cX11_many 91 = .ok (.iload 5, 2) := by decide +kernel
theorem dX11_many_93 : decode cX11_many 93 = .ok (.iload_n 3, 1) := by decide +kernel
theorem dX11_many_94 : decode cX11_many 94 = .ok (.if_icmp .lt 18, 3) := by decide +kernel
theorem dX11_many_97 : decode cX11_many 97 = .ok (.iload_n 2, 1) := by decide +kernel
theorem dX11_many_98 : decode cX11_many 98 = .ok (.i2l, 1) := by decide +kernel
theorem dX11_many_99 : decode cX11_many 99 = .ok (.aload_n 0, 1) := by decide +kernel
theorem dX11_many_100 : decode cX11_many 100 = .ok (.getfield 58, 3) := by decide +kernel
theorem dX11_many_103 : decode cX11_many 103 = .ok (.iload 5, 2) := by decide +kernel
theorem dX11_many_105 : decode cX11_many 105 = .ok (.iload_n 3, 1) := by decide +kernel
theorem dX11_many_106 : decode cX11_many 106 = .ok (.isub, 1) := by decide +kernel
theorem dX11_many_107 : decode cX11_many 107 = .ok (.laload, 1) := by decide +kernel
theorem dX11_many_108 : decode cX11_many 108 = .ok (.lmul, 1) := by decide +kernel
theorem dX11_many_109 : decode cX11_many 109 = .ok (.goto 4, 3) := by decide +kernel
theorem dX11_many_112 : decode cX11_many 112 = .ok (.lconst 0, 1) := by decide +kernel
theorem dX11_many_113 : decode cX11_many 113 = .ok (.ladd, 1) := by decide +kernel
theorem dX11_many_114 : decode cX11_many 114 = .ok (.lastore, 1) := by decide +kernel
theorem dX11_many_115 : decode cX11_many 115 = .ok (.iinc 5 1, 3) := by decide +kernel
theorem dX11_many_118 : decode cX11_many 118 = .ok (.goto (-49), 3) := by decide +kernel
theorem dX11_many_121 : decode cX11_many 121 = .ok (.aload_n 0, 1) := by decide +kernel
theorem dX11_many_122 : decode cX11_many 122 = .ok (.getfield 58, 3) := by decide +kernel
theorem dX11_many_125 : decode cX11_many 125 = .ok (.iload 4, 2) := by decide +kernel
theorem dX11_many_127 : decode cX11_many 127 = .ok (.laload, 1) := by decide +kernel
theorem dX11_many_128 : decode cX11_many 128 = .ok (.lreturn, 1) := by decide +kernel
theorem dX11_stray_0 : decode cX11_stray 0 = .ok (.iload_n 1, 1) := by decide +kernel
theorem dX11_stray_1 : decode cX11_stray 1 = .ok (.iconst 1, 1) := by decide +kernel
theorem dX11_stray_2 : decode cX11_stray 2 = .ok (.if_icmp .ge 10, 3) := by decide +kernel
theorem dX11_stray_5 : decode cX11_stray 5 = .ok (.aload_n 0, 1) := by decide +kernel
theorem dX11_stray_6 : decode cX11_stray 6 = .ok (.bipush (-4), 2) := by decide +kernel
theorem dX11_stray_8 : decode cX11_stray 8 = .ok (.invokevirtual 64, 3) := by decide +kernel
theorem dX11_stray_11 : decode cX11_stray 11 = .ok (.ireturn, 1) := by decide +kernel
theorem dX11_stray_12 : decode cX11_stray 12 = .ok (.iload_n 1, 1) := by decide +kernel
theorem dX11_stray_13 : decode cX11_stray 13 = .ok (.bipush 40, 2) := by decide +kernel
theorem dX11_stray_15 : decode cX11_stray 15 = .ok (.if_icmp .le 10, 3) := by decide +kernel
theorem dX11_stray_18 : decode cX11_stray 18 = .ok (.aload_n 0, 1) := by decide +kernel
theorem dX11_stray_19 : decode cX11_stray 19 = .ok (.bipush (-6), 2) := by decide +kernel
theorem dX11_stray_21 : decode cX11_stray 21 = .ok (.invokevirtual 64, 3) := by decide +kernel
theorem dX11_stray_24 : decode cX11_stray 24 = .ok (.ireturn, 1) := by decide +kernel
theorem dX11_stray_25 : decode cX11_stray 25 = .ok (.aload_n 0, 1) := by decide +kernel
theorem dX11_stray_26 : decode cX11_stray 26 = .ok (.getfield 36, 3) := by decide +kernel
theorem dX11_stray_29 : decode cX11_stray 29 = .ok (.aload_n 0, 1) := by decide +kernel
theorem dX11_stray_30 : decode cX11_stray 30 = .ok (.getfield 10, 3) := by decide +kernel
theorem dX11_stray_33 : decode cX11_stray 33 = .ok (.iload_n 1, 1) := by decide +kernel
theorem dX11_stray_34 : decode cX11_stray 34 = .ok (.iload_n 2, 1) := by decide +kernel
theorem dX11_stray_35 : decode cX11_stray 35 = .ok (.invokevirtual 232, 3) := by decide +kernel
theorem dX11_stray_38 : decode cX11_stray 38 = .ok (.ireturn, 1) := by decide +kernel
theorem dX11_row_0 : decode cX11_row 0 = .ok (.iload_n 1, 1) := by decide +kernel
theorem dX11_row_1 : decode cX11_row 1 = .ok (.ifCond .ge 10, 3) := by decide +kernel
theorem dX11_row_4 : decode cX11_row 4 = .ok (.aload_n 0, 1) := by decide +kernel
theorem dX11_row_5 : decode cX11_row 5 = .ok (.bipush (-4), 2) := by decide +kernel
theorem dX11_row_7 : decode cX11_row 7 = .ok (.invokevirtual 64, 3) := by decide +kernel
theorem dX11_row_10 : decode cX11_row 10 = .ok (.ireturn, 1) := by decide +kernel
theorem dX11_row_11 : decode cX11_row 11 = .ok (.iload_n 1, 1) := by decide +kernel
theorem dX11_row_12 : decode cX11_row 12 = .ok (.bipush 9, 2) := by decide +kernel
theorem dX11_row_14 : decode cX11_row 14 = .ok (.if_icmp .gt 12, 3) := by decide +kernel
theorem dX11_row_17 : decode cX11_row 17 = .ok (.aload_n 0, 1) := by decide +kernel
theorem dX11_row_18 : decode cX11_row 18 = .ok (.getfield 51, 3) := by decide +kernel
theorem dX11_row_21 : decode cX11_row 21 = .ok (.bipush 10, 2) := by decide +kernel
theorem dX11_row_23 : decode cX11_row 23 = .ok (.if_icmp .lt 10, 3) := by decide +kernel
theorem dX11_row_26 : decode cX11_row 26 = .ok (.aload_n 0, 1) := by decide +kernel
theorem dX11_row_27 : decode cX11_row 27 = .ok (.bipush (-6), 2) := by decide +kernel
theorem dX11_row_29 : decode cX11_row 29 = .ok (.invokevirtual 64, 3) := by decide +kernel
theorem dX11_row_32 : decode cX11_row 32 = .ok (.ireturn, 1) := by decide +kernel
theorem dX11_row_33 : decode cX11_row 33 = .ok (.aload_n 0, 1) := by decide +kernel
theorem dX11_row_34 : decode cX11_row 34 = .ok (.getfield 48, 3) := by decide +kernel
theorem dX11_row_37 : decode cX11_row 37 = .ok (.aload_n 0, 1) := by decide +kernel
theorem dX11_row_38 : decode cX11_row 38 = .ok (.getfield 51, 3) := by decide +kernel
theorem dX11_row_41 : decode cX11_row 41 = .ok (.iload_n 1, 1) := by decide +kernel
theorem dX11_row_42 : decode cX11_row 42 = .ok (.iastore, 1) := by decide +kernel
theorem dX11_row_43 : decode cX11_row 43 = .ok (.aload_n 0, 1) := by decide +kernel
theorem dX11_row_44 : decode cX11_row 44 = .ok (.dup, 1) := by decide +kernel
theorem dX11_row_45 : decode cX11_row 45 = .ok (.getfield 51, 3) := by decide +kernel
theorem dX11_row_48 : decode cX11_row 48 = .ok (.iconst 1, 1) := by decide +kernel
theorem dX11_row_49 : decode cX11_row 49 = .ok (.iadd, 1) := by decide +kernel
theorem dX11_row_50 : decode cX11_row 50 = .ok (.putfield 51, 3) := by decide +kernel
theorem dX11_row_53 : decode cX11_row 53 = .ok (.aload_n 0, 1) := by decide +kernel
theorem dX11_row_54 : decode cX11_row 54 = .ok (.getfield 51, 3) := by decide +kernel
theorem dX11_row_57 : decode cX11_row 57 = .ok (.ireturn, 1) := by decide +kernel
theorem dX11_judge_0 : decode cX11_judge 0 = .ok (.iload_n 1, 1) := by decide +kernel
theorem dX11_judge_1 : decode cX11_judge 1 = .ok (.ifCond .lt 8, 3) := by decide +kernel
theorem dX11_judge_4 : decode cX11_judge 4 = .ok (.iload_n 1, 1) := by decide +kernel
theorem dX11_judge_5 : decode cX11_judge 5 = .ok (.iconst 1, 1) := by decide +kernel
theorem dX11_judge_6 : decode cX11_judge 6 = .ok (.if_icmp .le 10, 3) := by decide +kernel
theorem dX11_judge_9 : decode cX11_judge 9 = .ok (.aload_n 0, 1) := by decide +kernel
theorem dX11_judge_10 : decode cX11_judge 10 = .ok (.bipush (-2), 2) := by decide +kernel
theorem dX11_judge_12 : decode cX11_judge 12 = .ok (.invokevirtual 64, 3) := by decide +kernel
theorem dX11_judge_15 : decode cX11_judge 15 = .ok (.ireturn, 1) := by decide +kernel
theorem dX11_judge_16 : decode cX11_judge 16 = .ok (.iload_n 1, 1) := by decide +kernel
theorem dX11_judge_17 : decode cX11_judge 17 = .ok (.ifCond .ne 25, 3) := by decide +kernel
theorem dX11_judge_20 : decode cX11_judge 20 = .ok (.aload_n 0, 1) := by decide +kernel
theorem dX11_judge_21 : decode cX11_judge 21 = .ok (.getfield 36, 3) := by decide +kernel
theorem dX11_judge_24 : decode cX11_judge 24 = .ok (.aload_n 0, 1) := by decide +kernel
theorem dX11_judge_25 : decode cX11_judge 25 = .ok (.getfield 10, 3) := by decide +kernel
theorem dX11_judge_28 : decode cX11_judge 28 = .ok (.aload_n 0, 1) := by decide +kernel
theorem dX11_judge_29 : decode cX11_judge 29 = .ok (.getfield 48, 3) := by decide +kernel
theorem dX11_judge_32 : decode cX11_judge 32 = .ok (.aload_n 0, 1) := by decide +kernel
theorem dX11_judge_33 : decode cX11_judge 33 = .ok (.getfield 51, 3) := by decide +kernel
theorem dX11_judge_36 : decode cX11_judge 36 = .ok (.invokevirtual 236, 3) := by decide +kernel
theorem dX11_judge_39 : decode cX11_judge 39 = .ok (.goto 22, 3) := by decide +kernel
theorem dX11_judge_42 : decode cX11_judge 42 = .ok (.aload_n 0, 1) := by decide +kernel
theorem dX11_judge_43 : decode cX11_judge 43 = .ok (.getfield 36, 3) := by decide +kernel
theorem dX11_judge_46 : decode cX11_judge 46 = .ok (.aload_n 0, 1) := by decide +kernel
theorem dX11_judge_47 : decode cX11_judge 47 = .ok (.getfield 10, 3) := by decide +kernel
theorem dX11_judge_50 : decode cX11_judge 50 = .ok (.aload_n 0, 1) := by decide +kernel
theorem dX11_judge_51 : decode cX11_judge 51 = .ok (.getfield 48, 3) := by decide +kernel
theorem dX11_judge_54 : decode cX11_judge 54 = .ok (.aload_n 0, 1) := by decide +kernel
theorem dX11_judge_55 : decode cX11_judge 55 = .ok (.getfield 51, 3) := by decide +kernel
theorem dX11_judge_58 : decode cX11_judge 58 = .ok (.invokevirtual 240, 3) := by decide +kernel
theorem dX11_judge_61 : decode cX11_judge 61 = .ok (.istore_n 2, 1) := by decide +kernel
theorem dX11_judge_62 : decode cX11_judge 62 = .ok (.aload_n 0, 1) := by decide +kernel
theorem dX11_judge_63 : decode cX11_judge 63 = .ok (.iconst 0, 1) := by decide +kernel
theorem dX11_judge_64 : decode cX11_judge 64 = .ok (.putfield 51, 3) := by decide +kernel
theorem dX11_judge_67 : decode cX11_judge 67 = .ok (.iload_n 2, 1) := by decide +kernel
theorem dX11_judge_68 : decode cX11_judge 68 = .ok (.ireturn, 1) := by decide +kernel
theorem dX11_image_0 : decode cX11_image 0 = .ok (.aload_n 0, 1) := by decide +kernel
theorem dX11_image_1 : decode cX11_image 1 = .ok (.getfield 19, 3) := by decide +kernel
theorem dX11_image_4 : decode cX11_image 4 = .ok (.aload_n 0, 1) := by decide +kernel
theorem dX11_image_5 : decode cX11_image 5 = .ok (.getfield 10, 3) := by decide +kernel
theorem dX11_image_8 : decode cX11_image 8 = .ok (.invokevirtual 68, 3) := by decide +kernel
theorem dX11_image_11 : decode cX11_image 11 = .ok (.aload_n 0, 1) := by decide +kernel
theorem dX11_image_12 : decode cX11_image 12 = .ok (.iconst 1, 1) := by decide +kernel
theorem dX11_image_13 : decode cX11_image 13 = .ok (.putfield 22, 3) := by decide +kernel
theorem dX11_image_16 : decode cX11_image 16 = .ok (.aload_n 0, 1) := by decide +kernel
theorem dX11_image_17 : decode cX11_image 17 = .ok (.getfield 10, 3) := by decide +kernel
theorem dX11_image_20 : decode cX11_image 20 = .ok (.getfield 221, 3) := by decide +kernel
theorem dX11_image_23 : decode cX11_image 23 = .ok (.ireturn, 1) := by decide +kernel
theorem dX11_on_0 : decode cX11_on 0 = .ok (.aload_n 0, 1) := by decide +kernel
theorem dX11_on_1 : decode cX11_on 1 = .ok (.getfield 22, 3) := by decide +kernel
theorem dX11_on_4 : decode cX11_on 4 = .ok (.ifCond .ne 10, 3) := by decide +kernel
theorem dX11_on_7 : decode cX11_on 7 = .ok (.aload_n 0, 1) := by decide +kernel
theorem dX11_on_8 : decode cX11_on 8 = .ok (.bipush (-3), 2) := by decide +kernel
theorem dX11_on_10 : decode cX11_on 10 = .ok (.invokevirtual 64, 3) := by decide +kernel
theorem dX11_on_13 : decode cX11_on 13 = .ok (.ireturn, 1) := by decide +kernel
theorem dX11_on_14 : decode cX11_on 14 = .ok (.aload_n 0, 1) := by decide +kernel
theorem dX11_on_15 : decode cX11_on 15 = .ok (.getfield 10, 3) := by decide +kernel
theorem dX11_on_18 : decode cX11_on 18 = .ok (.aload_n 0, 1) := by decide +kernel
theorem dX11_on_19 : decode cX11_on 19 = .ok (.getfield 19, 3) := by decide +kernel
theorem dX11_on_22 : decode cX11_on 22 = .ok (.invokevirtual 68, 3) := by decide +kernel
theorem dX11_on_25 : decode cX11_on 25 = .ok (.aload_n 0, 1) := by decide +kernel
theorem dX11_on_26 : decode cX11_on 26 = .ok (.getfield 10, 3) := by decide +kernel
theorem dX11_on_29 : decode cX11_on 29 = .ok (.getfield 221, 3) := by decide +kernel
theorem dX11_on_32 : decode cX11_on 32 = .ok (.ireturn, 1) := by decide +kernel
theorem dX11_count_0 : decode cX11_count 0 = .ok (.iload_n 1, 1) := by decide +kernel
theorem dX11_count_1 : decode cX11_count 1 = .ok (.tableswitch 120 0 8 #[51, 59, 67, 75, 83, 91, 99, 104, 109], 51) := by decide +kernel
theorem dX11_count_52 : decode cX11_count 52 = .ok (.aload_n 0, 1) := by decide +kernel
theorem dX11_count_53 : decode cX11_count 53 = .ok (.getfield 10, 3) := by decide +kernel
theorem dX11_count_56 : decode cX11_count 56 = .ok (.getfield 221, 3) := by decide +kernel
theorem dX11_count_59 : decode cX11_count 59 = .ok (.ireturn, 1) := by decide +kernel
theorem dX11_count_60 : decode cX11_count 60 = .ok (.aload_n 0, 1) := by decide +kernel
theorem dX11_count_61 : decode cX11_count 61 = .ok (.getfield 10, 3) := by decide +kernel
theorem dX11_count_64 : decode cX11_count 64 = .ok (.getfield 243, 3) := by decide +kernel
theorem dX11_count_67 : decode cX11_count 67 = .ok (.ireturn, 1) := by decide +kernel
theorem dX11_count_68 : decode cX11_count 68 = .ok (.aload_n 0, 1) := by decide +kernel
theorem dX11_count_69 : decode cX11_count 69 = .ok (.getfield 10, 3) := by decide +kernel
theorem dX11_count_72 : decode cX11_count 72 = .ok (.getfield 246, 3) := by decide +kernel
theorem dX11_count_75 : decode cX11_count 75 = .ok (.ireturn, 1) := by decide +kernel
theorem dX11_count_76 : decode cX11_count 76 = .ok (.aload_n 0, 1) := by decide +kernel
theorem dX11_count_77 : decode cX11_count 77 = .ok (.getfield 10, 3) := by decide +kernel
theorem dX11_count_80 : decode cX11_count 80 = .ok (.getfield 209, 3) := by decide +kernel
theorem dX11_count_83 : decode cX11_count 83 = .ok (.ireturn, 1) := by decide +kernel
theorem dX11_count_84 : decode cX11_count 84 = .ok (.aload_n 0, 1) := by decide +kernel
theorem dX11_count_85 : decode cX11_count 85 = .ok (.getfield 10, 3) := by decide +kernel
theorem dX11_count_88 : decode cX11_count 88 = .ok (.getfield 155, 3) := by decide +kernel
theorem dX11_count_91 : decode cX11_count 91 = .ok (.ireturn, 1) := by decide +kernel
theorem dX11_count_92 : decode cX11_count 92 = .ok (.aload_n 0, 1) := by decide +kernel
theorem dX11_count_93 : decode cX11_count 93 = .ok (.getfield 10, 3) := by decide +kernel
theorem dX11_count_96 : decode cX11_count 96 = .ok (.invokevirtual 249, 3) := by decide +kernel
theorem dX11_count_99 : decode cX11_count 99 = .ok (.ireturn, 1) := by decide +kernel
theorem dX11_count_100 : decode cX11_count 100 = .ok (.aload_n 0, 1) := by decide +kernel
theorem dX11_count_101 : decode cX11_count 101 = .ok (.getfield 51, 3) := by decide +kernel
theorem dX11_count_104 : decode cX11_count 104 = .ok (.ireturn, 1) := by decide +kernel
theorem dX11_count_105 : decode cX11_count 105 = .ok (.aload_n 0, 1) := by decide +kernel
theorem dX11_count_106 : decode cX11_count 106 = .ok (.getfield 44, 3) := by decide +kernel
theorem dX11_count_109 : decode cX11_count 109 = .ok (.ireturn, 1) := by decide +kernel
theorem dX11_count_110 : decode cX11_count 110 = .ok (.aload_n 0, 1) := by decide +kernel
theorem dX11_count_111 : decode cX11_count 111 = .ok (.getfield 10, 3) := by decide +kernel
theorem dX11_count_114 : decode cX11_count 114 = .ok (.getfield 109, 3) := by decide +kernel
theorem dX11_count_117 : decode cX11_count 117 = .ok (.invokevirtual 253, 3) := by decide +kernel
theorem dX11_count_120 : decode cX11_count 120 = .ok (.ireturn, 1) := by decide +kernel
theorem dX11_count_121 : decode cX11_count 121 = .ok (.iload_n 1, 1) := by decide +kernel
theorem dX11_count_122 : decode cX11_count 122 = .ok (.bipush 11, 2) := by decide +kernel
theorem dX11_count_124 : decode cX11_count 124 = .ok (.if_icmp .lt 21, 3) := by decide +kernel
theorem dX11_count_127 : decode cX11_count 127 = .ok (.iload_n 1, 1) := by decide +kernel
theorem dX11_count_128 : decode cX11_count 128 = .ok (.bipush 16, 2) := by decide +kernel
theorem dX11_count_130 : decode cX11_count 130 = .ok (.if_icmp .gt 15, 3) := by decide +kernel
theorem dX11_count_133 : decode cX11_count 133 = .ok (.aload_n 0, 1) := by decide +kernel
theorem dX11_count_134 : decode cX11_count 134 = .ok (.getfield 61, 3) := by decide +kernel
theorem dX11_count_137 : decode cX11_count 137 = .ok (.iload_n 1, 1) := by decide +kernel
theorem dX11_count_138 : decode cX11_count 138 = .ok (.bipush 10, 2) := by decide +kernel
theorem dX11_count_140 : decode cX11_count 140 = .ok (.isub, 1) := by decide +kernel
theorem dX11_count_141 : decode cX11_count 141 = .ok (.iaload, 1) := by decide +kernel
theorem dX11_count_142 : decode cX11_count 142 = .ok (.goto 5, 3) := by decide +kernel
theorem dX11_count_145 : decode cX11_count 145 = .ok (.bipush (-9), 2) := by decide +kernel
theorem dX11_count_147 : decode cX11_count 147 = .ok (.ireturn, 1) := by decide +kernel
theorem dX11_refuse_0 : decode cX11_refuse 0 = .ok (.aload_n 0, 1) := by decide +kernel
theorem dX11_refuse_1 : decode cX11_refuse 1 = .ok (.getfield 61, 3) := by decide +kernel
theorem dX11_refuse_4 : decode cX11_refuse 4 = .ok (.iload_n 1, 1) := by decide +kernel
theorem dX11_refuse_5 : decode cX11_refuse 5 = .ok (.ineg, 1) := by decide +kernel
theorem dX11_refuse_6 : decode cX11_refuse 6 = .ok (.dup2, 1) := by decide +kernel
theorem dX11_refuse_7 : decode cX11_refuse 7 = .ok (.iaload, 1) := by decide +kernel
theorem dX11_refuse_8 : decode cX11_refuse 8 = .ok (.iconst 1, 1) := by decide +kernel
theorem dX11_refuse_9 : decode cX11_refuse 9 = .ok (.iadd, 1) := by decide +kernel
theorem dX11_refuse_10 : decode cX11_refuse 10 = .ok (.iastore, 1) := by decide +kernel
theorem dX11_refuse_11 : decode cX11_refuse 11 = .ok (.iload_n 1, 1) := by decide +kernel
theorem dX11_refuse_12 : decode cX11_refuse 12 = .ok (.ireturn, 1) := by decide +kernel
theorem dX11_refuseLong_0 : decode cX11_refuseLong 0 = .ok (.ldc2_w 256, 3) := by decide +kernel
theorem dX11_refuseLong_3 : decode cX11_refuseLong 3 = .ok (.aload_n 0, 1) := by decide +kernel
theorem dX11_refuseLong_4 : decode cX11_refuseLong 4 = .ok (.iload_n 1, 1) := by decide +kernel
theorem dX11_refuseLong_5 : decode cX11_refuseLong 5 = .ok (.invokevirtual 64, 3) := by decide +kernel
theorem dX11_refuseLong_8 : decode cX11_refuseLong 8 = .ok (.i2l, 1) := by decide +kernel
theorem dX11_refuseLong_9 : decode cX11_refuseLong 9 = .ok (.lsub, 1) := by decide +kernel
theorem dX11_refuseLong_10 : decode cX11_refuseLong 10 = .ok (.lreturn, 1) := by decide +kernel
theorem dX11_areDigitsPlaces_0 : decode cX11_areDigitsPlaces 0 = .ok (.lload_n 2, 1) := by decide +kernel
theorem dX11_areDigitsPlaces_1 : decode cX11_areDigitsPlaces 1 = .ok (.lstore 4, 2) := by decide +kernel
theorem dX11_areDigitsPlaces_3 : decode cX11_areDigitsPlaces 3 = .ok (.iconst 0, 1) := by decide +kernel
theorem dX11_areDigitsPlaces_4 : decode cX11_areDigitsPlaces 4 = .ok (.istore 6, 2) := by decide +kernel
theorem dX11_areDigitsPlaces_6 : decode cX11_areDigitsPlaces 6 = .ok (.iload 6, 2) := by decide +kernel
theorem dX11_areDigitsPlaces_8 : decode cX11_areDigitsPlaces 8 = .ok (.iload_n 1, 1) := by decide +kernel
theorem dX11_areDigitsPlaces_9 : decode cX11_areDigitsPlaces 9 = .ok (.if_icmp .ge 36, 3) := by decide +kernel
theorem dX11_areDigitsPlaces_12 : decode cX11_areDigitsPlaces 12 = .ok (.aload_n 0, 1) := by decide +kernel
theorem dX11_areDigitsPlaces_13 : decode cX11_areDigitsPlaces 13 = .ok (.getfield 10, 3) := by decide +kernel
theorem dX11_areDigitsPlaces_16 : decode cX11_areDigitsPlaces 16 = .ok (.lload 4, 2) := by decide +kernel
theorem dX11_areDigitsPlaces_18 : decode cX11_areDigitsPlaces 18 = .ok (.ldc2_w 161, 3) := by decide +kernel
theorem dX11_areDigitsPlaces_21 : decode cX11_areDigitsPlaces 21 = .ok (.lrem, 1) := by decide +kernel
theorem dX11_areDigitsPlaces_22 : decode cX11_areDigitsPlaces 22 = .ok (.l2i, 1) := by decide +kernel
theorem dX11_areDigitsPlaces_23 : decode cX11_areDigitsPlaces 23 = .ok (.invokevirtual 79, 3) := by decide +kernel
theorem dX11_areDigitsPlaces_26 : decode cX11_areDigitsPlaces 26 = .ok (.ifCond .ne 5, 3) := by decide +kernel
theorem dX11_areDigitsPlaces_29 : decode cX11_areDigitsPlaces 29 = .ok (.iconst 0, 1) := by decide +kernel
theorem dX11_areDigitsPlaces_30 : decode cX11_areDigitsPlaces 30 = .ok (.ireturn, 1) := by decide +kernel
theorem dX11_areDigitsPlaces_31 : decode cX11_areDigitsPlaces 31 = .ok (.lload 4, 2) := by decide +kernel
theorem dX11_areDigitsPlaces_33 : decode cX11_areDigitsPlaces 33 = .ok (.ldc2_w 161, 3) := by decide +kernel
theorem dX11_areDigitsPlaces_36 : decode cX11_areDigitsPlaces 36 = .ok (.ldiv, 1) := by decide +kernel
theorem dX11_areDigitsPlaces_37 : decode cX11_areDigitsPlaces 37 = .ok (.lstore 4, 2) := by decide +kernel
theorem dX11_areDigitsPlaces_39 : decode cX11_areDigitsPlaces 39 = .ok (.iinc 6 1, 3) := by decide +kernel
theorem dX11_areDigitsPlaces_42 : decode cX11_areDigitsPlaces 42 = .ok (.goto (-36), 3) := by decide +kernel
theorem dX11_areDigitsPlaces_45 : decode cX11_areDigitsPlaces 45 = .ok (.iconst 1, 1) := by decide +kernel
theorem dX11_areDigitsPlaces_46 : decode cX11_areDigitsPlaces 46 = .ok (.ireturn, 1) := by decide +kernel
theorem dX11_fillMeans_0 : decode cX11_fillMeans 0 = .ok (.aload_n 0, 1) := by decide +kernel
theorem dX11_fillMeans_1 : decode cX11_fillMeans 1 = .ok (.getfield 54, 3) := by decide +kernel
theorem dX11_fillMeans_4 : decode cX11_fillMeans 4 = .ok (.lconst 0, 1) := by decide +kernel
theorem dX11_fillMeans_5 : decode cX11_fillMeans 5 = .ok (.invokestatic 258, 3) := by decide +kernel
theorem dX11_fillMeans_8 : decode cX11_fillMeans 8 = .ok (.aload_n 0, 1) := by decide +kernel
theorem dX11_fillMeans_9 : decode cX11_fillMeans 9 = .ok (.getfield 10, 3) := by decide +kernel
theorem dX11_fillMeans_12 : decode cX11_fillMeans 12 = .ok (.invokevirtual 249, 3) := by decide +kernel
theorem dX11_fillMeans_15 : decode cX11_fillMeans 15 = .ok (.istore_n 3, 1) := by decide +kernel
theorem dX11_fillMeans_16 : decode cX11_fillMeans 16 = .ok (.lconst 1, 1) := by decide +kernel
theorem dX11_fillMeans_17 : decode cX11_fillMeans 17 = .ok (.lstore 4, 2) := by decide +kernel
theorem dX11_fillMeans_19 : decode cX11_fillMeans 19 = .ok (.iconst 0, 1) := by decide +kernel
theorem dX11_fillMeans_20 : decode cX11_fillMeans 20 = .ok (.istore 6, 2) := by decide +kernel
theorem dX11_fillMeans_22 : decode cX11_fillMeans 22 = .ok (.iload 6, 2) := by decide +kernel
theorem dX11_fillMeans_24 : decode cX11_fillMeans 24 = .ok (.iload_n 2, 1) := by decide +kernel
theorem dX11_fillMeans_25 : decode cX11_fillMeans 25 = .ok (.if_icmp .ge 45, 3) := by decide +kernel
theorem dX11_fillMeans_28 : decode cX11_fillMeans 28 = .ok (.iload_n 1, 1) := by decide +kernel
theorem dX11_fillMeans_29 : decode cX11_fillMeans 29 = .ok (.istore 7, 2) := by decide +kernel
theorem dX11_fillMeans_31 : decode cX11_fillMeans 31 = .ok (.iload 7, 2) := by decide +kernel
theorem dX11_fillMeans_33 : decode cX11_fillMeans 33 = .ok (.ifCond .lt 24, 3) := by decide +kernel
theorem dX11_fillMeans_36 : decode cX11_fillMeans 36 = .ok (.aload_n 0, 1) := by decide +kernel
theorem dX11_fillMeans_37 : decode cX11_fillMeans 37 = .ok (.getfield 54, 3) := by decide +kernel
theorem dX11_fillMeans_40 : decode cX11_fillMeans 40 = .ok (.iload 7, 2) := by decide +kernel
theorem dX11_fillMeans_42 : decode cX11_fillMeans 42 = .ok (.aload_n 0, 1) := by decide +kernel
theorem dX11_fillMeans_43 : decode cX11_fillMeans 43 = .ok (.iload 7, 2) := by decide +kernel
theorem dX11_fillMeans_45 : decode cX11_fillMeans 45 = .ok (.lload 4, 2) := by decide +kernel
theorem dX11_fillMeans_47 : decode cX11_fillMeans 47 = .ok (.invokevirtual 264, 3) := by decide +kernel
theorem dX11_fillMeans_50 : decode cX11_fillMeans 50 = .ok (.lastore, 1) := by decide +kernel
theorem dX11_fillMeans_51 : decode cX11_fillMeans 51 = .ok (.iinc 7 (-1), 3) := by decide +kernel
theorem dX11_fillMeans_54 : decode cX11_fillMeans 54 = .ok (.goto (-23), 3) := by decide +kernel
theorem dX11_fillMeans_57 : decode cX11_fillMeans 57 = .ok (.lload 4, 2) := by decide +kernel
theorem dX11_fillMeans_59 : decode cX11_fillMeans 59 = .ok (.iload_n 3, 1) := by decide +kernel
theorem dX11_fillMeans_60 : decode cX11_fillMeans 60 = .ok (.i2l, 1) := by decide +kernel
theorem dX11_fillMeans_61 : decode cX11_fillMeans 61 = .ok (.lmul, 1) := by decide +kernel
theorem dX11_fillMeans_62 : decode cX11_fillMeans 62 = .ok (.lstore 4, 2) := by decide +kernel
theorem dX11_fillMeans_64 : decode cX11_fillMeans 64 = .ok (.iinc 6 1, 3) := by decide +kernel
theorem dX11_fillMeans_67 : decode cX11_fillMeans 67 = .ok (.goto (-45), 3) := by decide +kernel
theorem dX11_fillMeans_70 : decode cX11_fillMeans 70 = .ok (.lload 4, 2) := by decide +kernel
theorem dX11_fillMeans_72 : decode cX11_fillMeans 72 = .ok (.lreturn, 1) := by decide +kernel
theorem dX11_oneCallMore_0 : decode cX11_oneCallMore 0 = .ok (.lconst 0, 1) := by decide +kernel
theorem dX11_oneCallMore_1 : decode cX11_oneCallMore 1 = .ok (.lstore 4, 2) := by decide +kernel
theorem dX11_oneCallMore_3 : decode cX11_oneCallMore 3 = .ok (.iconst 0, 1) := by decide +kernel
theorem dX11_oneCallMore_4 : decode cX11_oneCallMore 4 = .ok (.istore 6, 2) := by decide +kernel
theorem dX11_oneCallMore_6 : decode cX11_oneCallMore 6 = .ok (.iload 6, 2) := by decide +kernel
theorem dX11_oneCallMore_8 : decode cX11_oneCallMore 8 = .ok (.aload_n 0, 1) := by decide +kernel
theorem dX11_oneCallMore_9 : decode cX11_oneCallMore 9 = .ok (.getfield 10, 3) := by decide +kernel
theorem dX11_oneCallMore_12 : decode cX11_oneCallMore 12 = .ok (.getfield 221, 3) := by decide +kernel
theorem dX11_oneCallMore_15 : decode cX11_oneCallMore 15 = .ok (.if_icmp .ge 92, 3) := by decide +kernel
theorem dX11_oneCallMore_18 : decode cX11_oneCallMore 18 = .ok (.aload_n 0, 1) := by decide +kernel
theorem dX11_oneCallMore_19 : decode cX11_oneCallMore 19 = .ok (.getfield 10, 3) := by decide +kernel
theorem dX11_oneCallMore_22 : decode cX11_oneCallMore 22 = .ok (.aload_n 0, 1) := by decide +kernel
theorem dX11_oneCallMore_23 : decode cX11_oneCallMore 23 = .ok (.getfield 10, 3) := by decide +kernel
theorem dX11_oneCallMore_26 : decode cX11_oneCallMore 26 = .ok (.getfield 118, 3) := by decide +kernel
theorem dX11_oneCallMore_29 : decode cX11_oneCallMore 29 = .ok (.iconst 3, 1) := by decide +kernel
theorem dX11_oneCallMore_30 : decode cX11_oneCallMore 30 = .ok (.iaload, 1) := by decide +kernel
theorem dX11_oneCallMore_31 : decode cX11_oneCallMore 31 = .ok (.iload 6, 2) := by decide +kernel
theorem dX11_oneCallMore_33 : decode cX11_oneCallMore 33 = .ok (.invokevirtual 83, 3) := by decide +kernel
theorem dX11_oneCallMore_36 : decode cX11_oneCallMore 36 = .ok (.istore 7, 2) := by decide +kernel
theorem dX11_oneCallMore_38 : decode cX11_oneCallMore 38 = .ok (.aload_n 0, 1) := by decide +kernel
theorem dX11_oneCallMore_39 : decode cX11_oneCallMore 39 = .ok (.getfield 54, 3) := by decide +kernel
theorem dX11_oneCallMore_42 : decode cX11_oneCallMore 42 = .ok (.iload_n 1, 1) := by decide +kernel
theorem dX11_oneCallMore_43 : decode cX11_oneCallMore 43 = .ok (.laload, 1) := by decide +kernel
theorem dX11_oneCallMore_44 : decode cX11_oneCallMore 44 = .ok (.lstore 8, 2) := by decide +kernel
theorem dX11_oneCallMore_46 : decode cX11_oneCallMore 46 = .ok (.iload 7, 2) := by decide +kernel
theorem dX11_oneCallMore_48 : decode cX11_oneCallMore 48 = .ok (.iload_n 1, 1) := by decide +kernel
theorem dX11_oneCallMore_49 : decode cX11_oneCallMore 49 = .ok (.if_icmp .gt 33, 3) := by decide +kernel
theorem dX11_oneCallMore_52 : decode cX11_oneCallMore 52 = .ok (.lload 8, 2) := by decide +kernel
theorem dX11_oneCallMore_54 : decode cX11_oneCallMore 54 = .ok (.aload_n 0, 1) := by decide +kernel
theorem dX11_oneCallMore_55 : decode cX11_oneCallMore 55 = .ok (.getfield 10, 3) := by decide +kernel
theorem dX11_oneCallMore_58 : decode cX11_oneCallMore 58 = .ok (.getfield 186, 3) := by decide +kernel
theorem dX11_oneCallMore_61 : decode cX11_oneCallMore 61 = .ok (.iload 6, 2) := by decide +kernel
theorem dX11_oneCallMore_63 : decode cX11_oneCallMore 63 = .ok (.iaload, 1) := by decide +kernel
theorem dX11_oneCallMore_64 : decode cX11_oneCallMore 64 = .ok (.i2l, 1) := by decide +kernel
theorem dX11_oneCallMore_65 : decode cX11_oneCallMore 65 = .ok (.lload_n 2, 1) := by decide +kernel
theorem dX11_oneCallMore_66 : decode cX11_oneCallMore 66 = .ok (.lmul, 1) := by decide +kernel
theorem dX11_oneCallMore_67 : decode cX11_oneCallMore 67 = .ok (.aload_n 0, 1) := by decide +kernel
theorem dX11_oneCallMore_68 : decode cX11_oneCallMore 68 = .ok (.getfield 54, 3) := by decide +kernel
theorem dX11_oneCallMore_71 : decode cX11_oneCallMore 71 = .ok (.iload_n 1, 1) := by decide +kernel
theorem dX11_oneCallMore_72 : decode cX11_oneCallMore 72 = .ok (.iload 7, 2) := by decide +kernel
theorem dX11_oneCallMore_74 : decode cX11_oneCallMore 74 = .ok (.isub, 1) := by decide +kernel
theorem dX11_oneCallMore_75 : decode cX11_oneCallMore 75 = .ok (.laload, 1) := by decide +kernel
theorem dX11_oneCallMore_76 : decode cX11_oneCallMore 76 = .ok (.ladd, 1) := by decide +kernel
theorem dX11_oneCallMore_77 : decode cX11_oneCallMore 77 = .ok (.invokestatic 268, 3) := by decide +kernel
theorem dX11_oneCallMore_80 : decode cX11_oneCallMore 80 = .ok (.lstore 8, 2) := by decide +kernel
theorem dX11_oneCallMore_82 : decode cX11_oneCallMore 82 = .ok (.lload 4, 2) := by decide +kernel
theorem dX11_oneCallMore_84 : decode cX11_oneCallMore 84 = .ok (.aload_n 0, 1) := by decide +kernel
theorem dX11_oneCallMore_85 : decode cX11_oneCallMore 85 = .ok (.getfield 10, 3) := by decide +kernel
theorem dX11_oneCallMore_88 : decode cX11_oneCallMore 88 = .ok (.getfield 183, 3) := by decide +kernel
theorem dX11_oneCallMore_91 : decode cX11_oneCallMore 91 = .ok (.iload 6, 2) := by decide +kernel
theorem dX11_oneCallMore_93 : decode cX11_oneCallMore 93 = .ok (.iaload, 1) := by decide +kernel
theorem dX11_oneCallMore_94 : decode cX11_oneCallMore 94 = .ok (.i2l, 1) := by decide +kernel
theorem dX11_oneCallMore_95 : decode cX11_oneCallMore 95 = .ok (.lload 8, 2) := by decide +kernel
theorem dX11_oneCallMore_97 : decode cX11_oneCallMore 97 = .ok (.lmul, 1) := by decide +kernel
theorem dX11_oneCallMore_98 : decode cX11_oneCallMore 98 = .ok (.ladd, 1) := by decide +kernel
theorem dX11_oneCallMore_99 : decode cX11_oneCallMore 99 = .ok (.lstore 4, 2) := by decide +kernel
theorem dX11_oneCallMore_101 : decode cX11_oneCallMore 101 = .ok (.iinc 6 1, 3) := by decide +kernel
theorem dX11_oneCallMore_104 : decode cX11_oneCallMore 104 = .ok (.goto (-98), 3) := by decide +kernel
theorem dX11_oneCallMore_107 : decode cX11_oneCallMore 107 = .ok (.lload 4, 2) := by decide +kernel
theorem dX11_oneCallMore_109 : decode cX11_oneCallMore 109 = .ok (.lreturn, 1) := by decide +kernel
theorem dX11_commonDivisor_0 : decode cX11_commonDivisor 0 = .ok (.lload_n 0, 1) := by decide +kernel
theorem dX11_commonDivisor_1 : decode cX11_commonDivisor 1 = .ok (.lstore 4, 2) := by decide +kernel
theorem dX11_commonDivisor_3 : decode cX11_commonDivisor 3 = .ok (.lload_n 2, 1) := by decide +kernel
theorem dX11_commonDivisor_4 : decode cX11_commonDivisor 4 = .ok (.lstore 6, 2) := by decide +kernel
theorem dX11_commonDivisor_6 : decode cX11_commonDivisor 6 = .ok (.iconst 0, 1) := by decide +kernel
theorem dX11_commonDivisor_7 : decode cX11_commonDivisor 7 = .ok (.istore 8, 2) := by decide +kernel
theorem dX11_commonDivisor_9 : decode cX11_commonDivisor 9 = .ok (.iload 8, 2) := by decide +kernel
theorem dX11_commonDivisor_11 : decode cX11_commonDivisor 11 = .ok (.sipush 200, 3) := by decide +kernel
theorem dX11_commonDivisor_14 : decode cX11_commonDivisor 14 = .ok (.if_icmp .ge 31, 3) := by decide +kernel
theorem dX11_commonDivisor_17 : decode cX11_commonDivisor 17 = .ok (.lload 6, 2) := by decide +kernel
theorem dX11_commonDivisor_19 : decode cX11_commonDivisor 19 = .ok (.lconst 0, 1) := by decide +kernel
theorem dX11_commonDivisor_20 : decode cX11_commonDivisor 20 = .ok (.lcmp, 1) := by decide +kernel
theorem dX11_commonDivisor_21 : decode cX11_commonDivisor 21 = .ok (.ifCond .eq 24, 3) := by decide +kernel
theorem dX11_commonDivisor_24 : decode cX11_commonDivisor 24 = .ok (.lload 4, 2) := by decide +kernel
theorem dX11_commonDivisor_26 : decode cX11_commonDivisor 26 = .ok (.lload 6, 2) := by decide +kernel
theorem dX11_commonDivisor_28 : decode cX11_commonDivisor 28 = .ok (.lrem, 1) := by decide +kernel
theorem dX11_commonDivisor_29 : decode cX11_commonDivisor 29 = .ok (.lstore 9, 2) := by decide +kernel
theorem dX11_commonDivisor_31 : decode cX11_commonDivisor 31 = .ok (.lload 6, 2) := by decide +kernel
theorem dX11_commonDivisor_33 : decode cX11_commonDivisor 33 = .ok (.lstore 4, 2) := by decide +kernel
theorem dX11_commonDivisor_35 : decode cX11_commonDivisor 35 = .ok (.lload 9, 2) := by decide +kernel
theorem dX11_commonDivisor_37 : decode cX11_commonDivisor 37 = .ok (.lstore 6, 2) := by decide +kernel
theorem dX11_commonDivisor_39 : decode cX11_commonDivisor 39 = .ok (.iinc 8 1, 3) := by decide +kernel
theorem dX11_commonDivisor_42 : decode cX11_commonDivisor 42 = .ok (.goto (-33), 3) := by decide +kernel
theorem dX11_commonDivisor_45 : decode cX11_commonDivisor 45 = .ok (.lload 4, 2) := by decide +kernel
theorem dX11_commonDivisor_47 : decode cX11_commonDivisor 47 = .ok (.lconst 0, 1) := by decide +kernel
theorem dX11_commonDivisor_48 : decode cX11_commonDivisor 48 = .ok (.lcmp, 1) := by decide +kernel
theorem dX11_commonDivisor_49 : decode cX11_commonDivisor 49 = .ok (.ifCond .le 8, 3) := by decide +kernel
theorem dX11_commonDivisor_52 : decode cX11_commonDivisor 52 = .ok (.lload 4, 2) := by decide +kernel
theorem dX11_commonDivisor_54 : decode cX11_commonDivisor 54 = .ok (.goto 4, 3) := by decide +kernel
theorem dX11_commonDivisor_57 : decode cX11_commonDivisor 57 = .ok (.lconst 1, 1) := by decide +kernel
theorem dX11_commonDivisor_58 : decode cX11_commonDivisor 58 = .ok (.lreturn, 1) := by decide +kernel
theorem dX11_costOfSending_0 : decode cX11_costOfSending 0 = .ok (.iconst 2, 1) := by decide +kernel
theorem dX11_costOfSending_1 : decode cX11_costOfSending 1 = .ok (.aload_n 0, 1) := by decide +kernel
theorem dX11_costOfSending_2 : decode cX11_costOfSending 2 = .ok (.getfield 10, 3) := by decide +kernel
theorem dX11_costOfSending_5 : decode cX11_costOfSending 5 = .ok (.aload_n 0, 1) := by decide +kernel
theorem dX11_costOfSending_6 : decode cX11_costOfSending 6 = .ok (.getfield 10, 3) := by decide +kernel
theorem dX11_costOfSending_9 : decode cX11_costOfSending 9 = .ok (.getfield 212, 3) := by decide +kernel
theorem dX11_costOfSending_12 : decode cX11_costOfSending 12 = .ok (.iload_n 1, 1) := by decide +kernel
theorem dX11_costOfSending_13 : decode cX11_costOfSending 13 = .ok (.iaload, 1) := by decide +kernel
theorem dX11_costOfSending_14 : decode cX11_costOfSending 14 = .ok (.iload_n 2, 1) := by decide +kernel
theorem dX11_costOfSending_15 : decode cX11_costOfSending 15 = .ok (.invokevirtual 83, 3) := by decide +kernel
theorem dX11_costOfSending_18 : decode cX11_costOfSending 18 = .ok (.imul, 1) := by decide +kernel
theorem dX11_costOfSending_19 : decode cX11_costOfSending 19 = .ok (.istore_n 3, 1) := by decide +kernel
theorem dX11_costOfSending_20 : decode cX11_costOfSending 20 = .ok (.aload_n 0, 1) := by decide +kernel
theorem dX11_costOfSending_21 : decode cX11_costOfSending 21 = .ok (.getfield 10, 3) := by decide +kernel
theorem dX11_costOfSending_24 : decode cX11_costOfSending 24 = .ok (.getfield 215, 3) := by decide +kernel
theorem dX11_costOfSending_27 : decode cX11_costOfSending 27 = .ok (.iload_n 1, 1) := by decide +kernel
theorem dX11_costOfSending_28 : decode cX11_costOfSending 28 = .ok (.iaload, 1) := by decide +kernel
theorem dX11_costOfSending_29 : decode cX11_costOfSending 29 = .ok (.istore 4, 2) := by decide +kernel
theorem dX11_costOfSending_31 : decode cX11_costOfSending 31 = .ok (.iload 4, 2) := by decide +kernel
theorem dX11_costOfSending_33 : decode cX11_costOfSending 33 = .ok (.iload_n 3, 1) := by decide +kernel
theorem dX11_costOfSending_34 : decode cX11_costOfSending 34 = .ok (.iadd, 1) := by decide +kernel
theorem dX11_costOfSending_35 : decode cX11_costOfSending 35 = .ok (.aload_n 0, 1) := by decide +kernel
theorem dX11_costOfSending_36 : decode cX11_costOfSending 36 = .ok (.getfield 10, 3) := by decide +kernel
theorem dX11_costOfSending_39 : decode cX11_costOfSending 39 = .ok (.getfield 118, 3) := by decide +kernel
theorem dX11_costOfSending_42 : decode cX11_costOfSending 42 = .ok (.iconst 2, 1) := by decide +kernel
theorem dX11_costOfSending_43 : decode cX11_costOfSending 43 = .ok (.iaload, 1) := by decide +kernel
theorem dX11_costOfSending_44 : decode cX11_costOfSending 44 = .ok (.if_icmp .le 6, 3) := by decide +kernel
theorem dX11_costOfSending_47 : decode cX11_costOfSending 47 = .ok (.bipush (-9), 2) := by decide +kernel
theorem dX11_costOfSending_49 : decode cX11_costOfSending 49 = .ok (.ireturn, 1) := by decide +kernel
theorem dX11_costOfSending_50 : decode cX11_costOfSending 50 = .ok (.iload 4, 2) := by decide +kernel
theorem dX11_costOfSending_52 : decode cX11_costOfSending 52 = .ok (.aload_n 0, 1) := by decide +kernel
theorem dX11_costOfSending_53 : decode cX11_costOfSending 53 = .ok (.getfield 10, 3) := by decide +kernel
theorem dX11_costOfSending_56 : decode cX11_costOfSending 56 = .ok (.getfield 118, 3) := by decide +kernel
theorem dX11_costOfSending_59 : decode cX11_costOfSending 59 = .ok (.iconst 0, 1) := by decide +kernel
theorem dX11_costOfSending_60 : decode cX11_costOfSending 60 = .ok (.iaload, 1) := by decide +kernel
theorem dX11_costOfSending_61 : decode cX11_costOfSending 61 = .ok (.if_icmp .ge 7, 3) := by decide +kernel
theorem dX11_costOfSending_64 : decode cX11_costOfSending 64 = .ok (.iconst 4, 1) := by decide +kernel
theorem dX11_costOfSending_65 : decode cX11_costOfSending 65 = .ok (.iload_n 3, 1) := by decide +kernel
theorem dX11_costOfSending_66 : decode cX11_costOfSending 66 = .ok (.imul, 1) := by decide +kernel
theorem dX11_costOfSending_67 : decode cX11_costOfSending 67 = .ok (.ireturn, 1) := by decide +kernel
theorem dX11_costOfSending_68 : decode cX11_costOfSending 68 = .ok (.iload 4, 2) := by decide +kernel
theorem dX11_costOfSending_70 : decode cX11_costOfSending 70 = .ok (.aload_n 0, 1) := by decide +kernel
theorem dX11_costOfSending_71 : decode cX11_costOfSending 71 = .ok (.getfield 10, 3) := by decide +kernel
theorem dX11_costOfSending_74 : decode cX11_costOfSending 74 = .ok (.getfield 118, 3) := by decide +kernel
theorem dX11_costOfSending_77 : decode cX11_costOfSending 77 = .ok (.iconst 1, 1) := by decide +kernel
theorem dX11_costOfSending_78 : decode cX11_costOfSending 78 = .ok (.iaload, 1) := by decide +kernel
theorem dX11_costOfSending_79 : decode cX11_costOfSending 79 = .ok (.if_icmp .ge 9, 3) := by decide +kernel
theorem dX11_costOfSending_82 : decode cX11_costOfSending 82 = .ok (.iconst 3, 1) := by decide +kernel
theorem dX11_costOfSending_83 : decode cX11_costOfSending 83 = .ok (.iload_n 3, 1) := by decide +kernel
theorem dX11_costOfSending_84 : decode cX11_costOfSending 84 = .ok (.imul, 1) := by decide +kernel
theorem dX11_costOfSending_85 : decode cX11_costOfSending 85 = .ok (.goto 4, 3) := by decide +kernel
theorem dX11_costOfSending_88 : decode cX11_costOfSending 88 = .ok (.iload_n 3, 1) := by decide +kernel
theorem dX11_costOfSending_89 : decode cX11_costOfSending 89 = .ok (.ireturn, 1) := by decide +kernel
theorem dX11_sumToWells_0 : decode cX11_sumToWells 0 = .ok (.iconst 0, 1) := by decide +kernel
theorem dX11_sumToWells_1 : decode cX11_sumToWells 1 = .ok (.istore_n 2, 1) := by decide +kernel
theorem dX11_sumToWells_2 : decode cX11_sumToWells 2 = .ok (.iconst 0, 1) := by decide +kernel
theorem dX11_sumToWells_3 : decode cX11_sumToWells 3 = .ok (.istore_n 3, 1) := by decide +kernel
theorem dX11_sumToWells_4 : decode cX11_sumToWells 4 = .ok (.iload_n 3, 1) := by decide +kernel
theorem dX11_sumToWells_5 : decode cX11_sumToWells 5 = .ok (.aload_n 0, 1) := by decide +kernel
theorem dX11_sumToWells_6 : decode cX11_sumToWells 6 = .ok (.getfield 10, 3) := by decide +kernel
theorem dX11_sumToWells_9 : decode cX11_sumToWells 9 = .ok (.getfield 221, 3) := by decide +kernel
theorem dX11_sumToWells_12 : decode cX11_sumToWells 12 = .ok (.if_icmp .ge 79, 3) := by decide +kernel
theorem dX11_sumToWells_15 : decode cX11_sumToWells 15 = .ok (.ldc 87, 2) := by decide +kernel
theorem dX11_sumToWells_17 : decode cX11_sumToWells 17 = .ok (.istore 4, 2) := by decide +kernel
theorem dX11_sumToWells_19 : decode cX11_sumToWells 19 = .ok (.iconst 0, 1) := by decide +kernel
theorem dX11_sumToWells_20 : decode cX11_sumToWells 20 = .ok (.istore 5, 2) := by decide +kernel
theorem dX11_sumToWells_22 : decode cX11_sumToWells 22 = .ok (.iload 5, 2) := by decide +kernel
theorem dX11_sumToWells_24 : decode cX11_sumToWells 24 = .ok (.aload_n 0, 1) := by decide +kernel
theorem dX11_sumToWells_25 : decode cX11_sumToWells 25 = .ok (.getfield 10, 3) := by decide +kernel
theorem dX11_sumToWells_28 : decode cX11_sumToWells 28 = .ok (.getfield 221, 3) := by decide +kernel
theorem dX11_sumToWells_31 : decode cX11_sumToWells 31 = .ok (.if_icmp .ge 36, 3) := by decide +kernel
theorem dX11_sumToWells_34 : decode cX11_sumToWells 34 = .ok (.iload_n 1, 1) := by decide +kernel
theorem dX11_sumToWells_35 : decode cX11_sumToWells 35 = .ok (.iload 5, 2) := by decide +kernel
theorem dX11_sumToWells_37 : decode cX11_sumToWells 37 = .ok (.ishr, 1) := by decide +kernel
theorem dX11_sumToWells_38 : decode cX11_sumToWells 38 = .ok (.iconst 1, 1) := by decide +kernel
theorem dX11_sumToWells_39 : decode cX11_sumToWells 39 = .ok (.iand, 1) := by decide +kernel
theorem dX11_sumToWells_40 : decode cX11_sumToWells 40 = .ok (.iconst 1, 1) := by decide +kernel
theorem dX11_sumToWells_41 : decode cX11_sumToWells 41 = .ok (.if_icmp .ne 20, 3) := by decide +kernel
theorem dX11_sumToWells_44 : decode cX11_sumToWells 44 = .ok (.iload 4, 2) := by decide +kernel
theorem dX11_sumToWells_46 : decode cX11_sumToWells 46 = .ok (.aload_n 0, 1) := by decide +kernel
theorem dX11_sumToWells_47 : decode cX11_sumToWells 47 = .ok (.getfield 10, 3) := by decide +kernel
theorem dX11_sumToWells_50 : decode cX11_sumToWells 50 = .ok (.iload_n 3, 1) := by decide +kernel
theorem dX11_sumToWells_51 : decode cX11_sumToWells 51 = .ok (.iload 5, 2) := by decide +kernel
theorem dX11_sumToWells_53 : decode cX11_sumToWells 53 = .ok (.invokevirtual 83, 3) := by decide +kernel
theorem dX11_sumToWells_56 : decode cX11_sumToWells 56 = .ok (.invokestatic 206, 3) := by decide +kernel
theorem dX11_sumToWells_59 : decode cX11_sumToWells 59 = .ok (.istore 4, 2) := by decide +kernel
theorem dX11_sumToWells_61 : decode cX11_sumToWells 61 = .ok (.iinc 5 1, 3) := by decide +kernel
theorem dX11_sumToWells_64 : decode cX11_sumToWells 64 = .ok (.goto (-42), 3) := by decide +kernel
theorem dX11_sumToWells_67 : decode cX11_sumToWells 67 = .ok (.iload_n 2, 1) := by decide +kernel
theorem dX11_sumToWells_68 : decode cX11_sumToWells 68 = .ok (.iload 4, 2) := by decide +kernel
theorem dX11_sumToWells_70 : decode cX11_sumToWells 70 = .ok (.ldc 87, 2) := by decide +kernel
theorem dX11_sumToWells_72 : decode cX11_sumToWells 72 = .ok (.if_icmp .ge 8, 3) := by decide +kernel
theorem dX11_sumToWells_75 : decode cX11_sumToWells 75 = .ok (.iload 4, 2) := by decide +kernel
theorem dX11_sumToWells_77 : decode cX11_sumToWells 77 = .ok (.goto 6, 3) := by decide +kernel
theorem dX11_sumToWells_80 : decode cX11_sumToWells 80 = .ok (.sipush 1000, 3) := by decide +kernel
theorem dX11_sumToWells_83 : decode cX11_sumToWells 83 = .ok (.iadd, 1) := by decide +kernel
theorem dX11_sumToWells_84 : decode cX11_sumToWells 84 = .ok (.istore_n 2, 1) := by decide +kernel
theorem dX11_sumToWells_85 : decode cX11_sumToWells 85 = .ok (.iinc 3 1, 3) := by decide +kernel
theorem dX11_sumToWells_88 : decode cX11_sumToWells 88 = .ok (.goto (-84), 3) := by decide +kernel
theorem dX11_sumToWells_91 : decode cX11_sumToWells 91 = .ok (.iload_n 2, 1) := by decide +kernel
theorem dX11_sumToWells_92 : decode cX11_sumToWells 92 = .ok (.ireturn, 1) := by decide +kernel
