theorem dX0_init_0 : decode cX0_init 0 = .ok (.aload_n 0, 1) := by decide +kernel
theorem dX0_init_1 : decode cX0_init 1 = .ok (.iload_n 1, 1) := by decide +kernel
theorem dX0_init_2 : decode cX0_init 2 = .ok (.iload_n 2, 1) := by decide +kernel
theorem dX0_init_3 : decode cX0_init 3 = .ok (.iload_n 3, 1) := by decide +kernel
theorem dX0_init_4 : decode cX0_init 4 = .ok (.iload 4, 2) := by decide +kernel
theorem dX0_init_6 : decode cX0_init 6 = .ok (.iload 5, 2) := by decide +kernel
theorem dX0_init_8 : decode cX0_init 8 = .ok (.invokespecial 1, 3) := by decide +kernel
theorem dX0_init_11 : decode cX0_init 11 = .ok (.return_, 1) := by decide +kernel
theorem dX0_worthThen_0 : decode cX0_worthThen 0 = .ok (.iload_n 2, 1) := by decide +kernel
theorem dX0_worthThen_1 : decode cX0_worthThen 1 = .ok (.bipush 31, 2) := by decide +kernel
theorem dX0_worthThen_3 : decode cX0_worthThen 3 = .ok (.if_icmp .ge 12, 3) := by decide +kernel
theorem dX0_worthThen_6 : decode cX0_worthThen 6 = .ok (.aload_n 0, 1) := by decide +kernel
theorem dX0_worthThen_7 : decode cX0_worthThen 7 = .ok (.getfield 7, 3) := by decide +kernel
theorem dX0_worthThen_10 : decode cX0_worthThen 10 = .ok (.iload_n 2, 1) := by decide +kernel
theorem dX0_worthThen_11 : decode cX0_worthThen 11 = .ok (.ishr, 1) := by decide +kernel
theorem dX0_worthThen_12 : decode cX0_worthThen 12 = .ok (.goto 4, 3) := by decide +kernel
theorem dX0_worthThen_15 : decode cX0_worthThen 15 = .ok (.iconst 0, 1) := by decide +kernel
theorem dX0_worthThen_16 : decode cX0_worthThen 16 = .ok (.ireturn, 1) := by decide +kernel
theorem dX0_isOpen_0 : decode cX0_isOpen 0 = .ok (.aload_n 0, 1) := by decide +kernel
theorem dX0_isOpen_1 : decode cX0_isOpen 1 = .ok (.getfield 7, 3) := by decide +kernel
theorem dX0_isOpen_4 : decode cX0_isOpen 4 = .ok (.aload_n 1, 1) := by decide +kernel
theorem dX0_isOpen_5 : decode cX0_isOpen 5 = .ok (.aload_n 0, 1) := by decide +kernel
theorem dX0_isOpen_6 : decode cX0_isOpen 6 = .ok (.getfield 13, 3) := by decide +kernel
theorem dX0_isOpen_9 : decode cX0_isOpen 9 = .ok (.iaload, 1) := by decide +kernel
theorem dX0_isOpen_10 : decode cX0_isOpen 10 = .ok (.bipush 30, 2) := by decide +kernel
theorem dX0_isOpen_12 : decode cX0_isOpen 12 = .ok (.invokestatic 16, 3) := by decide +kernel
theorem dX0_isOpen_15 : decode cX0_isOpen 15 = .ok (.ishr, 1) := by decide +kernel
theorem dX0_isOpen_16 : decode cX0_isOpen 16 = .ok (.ifCond .le 7, 3) := by decide +kernel
theorem dX0_isOpen_19 : decode cX0_isOpen 19 = .ok (.iconst 1, 1) := by decide +kernel
theorem dX0_isOpen_20 : decode cX0_isOpen 20 = .ok (.goto 4, 3) := by decide +kernel
theorem dX0_isOpen_23 : decode cX0_isOpen 23 = .ok (.iconst 0, 1) := by decide +kernel
theorem dX0_isOpen_24 : decode cX0_isOpen 24 = .ok (.ireturn, 1) := by decide +kernel
theorem dX1_init_0 : decode cX1_init 0 = .ok (.aload_n 0, 1) := by decide +kernel
theorem dX1_init_1 : decode cX1_init 1 = .ok (.iload_n 1, 1) := by decide +kernel
theorem dX1_init_2 : decode cX1_init 2 = .ok (.iload_n 2, 1) := by decide +kernel
theorem dX1_init_3 : decode cX1_init 3 = .ok (.iload_n 3, 1) := by decide +kernel
theorem dX1_init_4 : decode cX1_init 4 = .ok (.iload 4, 2) := by decide +kernel
theorem dX1_init_6 : decode cX1_init 6 = .ok (.iload 5, 2) := by decide +kernel
theorem dX1_init_8 : decode cX1_init 8 = .ok (.invokespecial 1, 3) := by decide +kernel
theorem dX1_init_11 : decode cX1_init 11 = .ok (.return_, 1) := by decide +kernel
theorem dX1_isOpen_0 : decode cX1_isOpen 0 = .ok (.aload_n 0, 1) := by decide +kernel
theorem dX1_isOpen_1 : decode cX1_isOpen 1 = .ok (.aload_n 1, 1) := by decide +kernel
theorem dX1_isOpen_2 : decode cX1_isOpen 2 = .ok (.invokespecial 7, 3) := by decide +kernel
theorem dX1_isOpen_5 : decode cX1_isOpen 5 = .ok (.ifCond .eq 16, 3) := by decide +kernel
theorem dX1_isOpen_8 : decode cX1_isOpen 8 = .ok (.aload_n 1, 1) := by decide +kernel
theorem dX1_isOpen_9 : decode cX1_isOpen 9 = .ok (.aload_n 0, 1) := by decide +kernel
theorem dX1_isOpen_10 : decode cX1_isOpen 10 = .ok (.getfield 11, 3) := by decide +kernel
theorem dX1_isOpen_13 : decode cX1_isOpen 13 = .ok (.iaload, 1) := by decide +kernel
theorem dX1_isOpen_14 : decode cX1_isOpen 14 = .ok (.ifCond .le 7, 3) := by decide +kernel
theorem dX1_isOpen_17 : decode cX1_isOpen 17 = .ok (.iconst 1, 1) := by decide +kernel
theorem dX1_isOpen_18 : decode cX1_isOpen 18 = .ok (.goto 4, 3) := by decide +kernel
theorem dX1_isOpen_21 : decode cX1_isOpen 21 = .ok (.iconst 0, 1) := by decide +kernel
theorem dX1_isOpen_22 : decode cX1_isOpen 22 = .ok (.ireturn, 1) := by decide +kernel
theorem dX2_init_0 : decode cX2_init 0 = .ok (.aload_n 0, 1) := by decide +kernel
theorem dX2_init_1 : decode cX2_init 1 = .ok (.iload_n 1, 1) := by decide +kernel
theorem dX2_init_2 : decode cX2_init 2 = .ok (.iload_n 2, 1) := by decide +kernel
theorem dX2_init_3 : decode cX2_init 3 = .ok (.iload_n 3, 1) := by decide +kernel
theorem dX2_init_4 : decode cX2_init 4 = .ok (.iload 4, 2) := by decide +kernel
theorem dX2_init_6 : decode cX2_init 6 = .ok (.iload 5, 2) := by decide +kernel
theorem dX2_init_8 : decode cX2_init 8 = .ok (.invokespecial 3, 3) := by decide +kernel
theorem dX2_init_11 : decode cX2_init 11 = .ok (.return_, 1) := by decide +kernel
theorem dX2_worthThen_0 : decode cX2_worthThen 0 = .ok (.iload_n 1, 1) := by decide +kernel
theorem dX2_worthThen_1 : decode cX2_worthThen 1 = .ok (.aload_n 3, 1) := by decide +kernel
theorem dX2_worthThen_2 : decode cX2_worthThen 2 = .ok (.iconst 0, 1) := by decide +kernel
theorem dX2_worthThen_3 : decode cX2_worthThen 3 = .ok (.iaload, 1) := by decide +kernel
theorem dX2_worthThen_4 : decode cX2_worthThen 4 = .ok (.if_icmp .lt 13, 3) := by decide +kernel
theorem dX2_worthThen_7 : decode cX2_worthThen 7 = .ok (.aload_n 0, 1) := by decide +kernel
theorem dX2_worthThen_8 : decode cX2_worthThen 8 = .ok (.iload_n 1, 1) := by decide +kernel
theorem dX2_worthThen_9 : decode cX2_worthThen 9 = .ok (.iload_n 2, 1) := by decide +kernel
theorem dX2_worthThen_10 : decode cX2_worthThen 10 = .ok (.aload_n 3, 1) := by decide +kernel
theorem dX2_worthThen_11 : decode cX2_worthThen 11 = .ok (.invokespecial 9, 3) := by decide +kernel
theorem dX2_worthThen_14 : decode cX2_worthThen 14 = .ok (.goto 4, 3) := by decide +kernel
theorem dX2_worthThen_17 : decode cX2_worthThen 17 = .ok (.iconst 0, 1) := by decide +kernel
theorem dX2_worthThen_18 : decode cX2_worthThen 18 = .ok (.ireturn, 1) := by decide +kernel
theorem dX3_init_0 : decode cX3_init 0 = .ok (.aload_n 0, 1) := by decide +kernel
theorem dX3_init_1 : decode cX3_init 1 = .ok (.iload_n 1, 1) := by decide +kernel
theorem dX3_init_2 : decode cX3_init 2 = .ok (.iload_n 2, 1) := by decide +kernel
theorem dX3_init_3 : decode cX3_init 3 = .ok (.iload_n 3, 1) := by decide +kernel
theorem dX3_init_4 : decode cX3_init 4 = .ok (.iload 4, 2) := by decide +kernel
theorem dX3_init_6 : decode cX3_init 6 = .ok (.iload 5, 2) := by decide +kernel
theorem dX3_init_8 : decode cX3_init 8 = .ok (.invokespecial 3, 3) := by decide +kernel
theorem dX3_init_11 : decode cX3_init 11 = .ok (.return_, 1) := by decide +kernel
theorem dX3_worthThen_0 : decode cX3_worthThen 0 = .ok (.aload_n 0, 1) := by decide +kernel
theorem dX3_worthThen_1 : decode cX3_worthThen 1 = .ok (.iload_n 1, 1) := by decide +kernel
theorem dX3_worthThen_2 : decode cX3_worthThen 2 = .ok (.iload_n 2, 1) := by decide +kernel
theorem dX3_worthThen_3 : decode cX3_worthThen 3 = .ok (.aload_n 3, 1) := by decide +kernel
theorem dX3_worthThen_4 : decode cX3_worthThen 4 = .ok (.invokespecial 9, 3) := by decide +kernel
theorem dX3_worthThen_7 : decode cX3_worthThen 7 = .ok (.istore 4, 2) := by decide +kernel
theorem dX3_worthThen_9 : decode cX3_worthThen 9 = .ok (.iload 4, 2) := by decide +kernel
theorem dX3_worthThen_11 : decode cX3_worthThen 11 = .ok (.ifCond .le 21, 3) := by decide +kernel
theorem dX3_worthThen_14 : decode cX3_worthThen 14 = .ok (.iload 4, 2) := by decide +kernel
theorem dX3_worthThen_16 : decode cX3_worthThen 16 = .ok (.iconst 0, 1) := by decide +kernel
theorem dX3_worthThen_17 : decode cX3_worthThen 17 = .ok (.iload_n 1, 1) := by decide +kernel
theorem dX3_worthThen_18 : decode cX3_worthThen 18 = .ok (.aload_n 3, 1) := by decide +kernel
theorem dX3_worthThen_19 : decode cX3_worthThen 19 = .ok (.iconst 1, 1) := by decide +kernel
theorem dX3_worthThen_20 : decode cX3_worthThen 20 = .ok (.iaload, 1) := by decide +kernel
theorem dX3_worthThen_21 : decode cX3_worthThen 21 = .ok (.isub, 1) := by decide +kernel
theorem dX3_worthThen_22 : decode cX3_worthThen 22 = .ok (.invokestatic 13, 3) := by decide +kernel
theorem dX3_worthThen_25 : decode cX3_worthThen 25 = .ok (.bipush 50, 2) := by decide +kernel
theorem dX3_worthThen_27 : decode cX3_worthThen 27 = .ok (.idiv, 1) := by decide +kernel
theorem dX3_worthThen_28 : decode cX3_worthThen 28 = .ok (.iadd, 1) := by decide +kernel
theorem dX3_worthThen_29 : decode cX3_worthThen 29 = .ok (.goto 4, 3) := by decide +kernel
theorem dX3_worthThen_32 : decode cX3_worthThen 32 = .ok (.iconst 0, 1) := by decide +kernel
theorem dX3_worthThen_33 : decode cX3_worthThen 33 = .ok (.ireturn, 1) := by decide +kernel
theorem dX4_init_0 : decode cX4_init 0 = .ok (.aload_n 0, 1) := by decide +kernel
theorem dX4_init_1 : decode cX4_init 1 = .ok (.invokespecial 3, 3) := by decide +kernel
theorem dX4_init_4 : decode cX4_init 4 = .ok (.aload_n 0, 1) := by decide +kernel
theorem dX4_init_5 : decode cX4_init 5 = .ok (.iconst 0, 1) := by decide +kernel
theorem dX4_init_6 : decode cX4_init 6 = .ok (.putfield 9, 3) := by decide +kernel
theorem dX4_init_9 : decode cX4_init 9 = .ok (.aload_n 0, 1) := by decide +kernel
theorem dX4_init_10 : decode cX4_init 10 = .ok (.iconst 0, 1) := by decide +kernel
theorem dX4_init_11 : decode cX4_init 11 = .ok (.putfield 15, 3) := by decide +kernel
theorem dX4_init_14 : decode cX4_init 14 = .ok (.aload_n 0, 1) := by decide +kernel
theorem dX4_init_15 : decode cX4_init 15 = .ok (.iconst 0, 1) := by decide +kernel
theorem dX4_init_16 : decode cX4_init 16 = .ok (.putfield 18, 3) := by decide +kernel
theorem dX4_init_19 : decode cX4_init 19 = .ok (.aload_n 0, 1) := by decide +kernel
theorem dX4_init_20 : decode cX4_init 20 = .ok (.bipush 7, 2) := by decide +kernel
theorem dX4_init_22 : decode cX4_init 22 = .ok (.newarray .int, 2) := by decide +kernel
theorem dX4_init_24 : decode cX4_init 24 = .ok (.putfield 21, 3) := by decide +kernel
theorem dX4_init_27 : decode cX4_init 27 = .ok (.return_, 1) := by decide +kernel
theorem dX4_begin_0 : decode cX4_begin 0 = .ok (.aload_n 0, 1) := by decide +kernel
theorem dX4_begin_1 : decode cX4_begin 1 = .ok (.iload_n 1, 1) := by decide +kernel
theorem dX4_begin_2 : decode cX4_begin 2 = .ok (.putfield 9, 3) := by decide +kernel
theorem dX4_begin_5 : decode cX4_begin 5 = .ok (.aload_n 0, 1) := by decide +kernel
theorem dX4_begin_6 : decode cX4_begin 6 = .ok (.iconst 0, 1) := by decide +kernel
theorem dX4_begin_7 : decode cX4_begin 7 = .ok (.putfield 15, 3) := by decide +kernel
theorem dX4_begin_10 : decode cX4_begin 10 = .ok (.aload_n 0, 1) := by decide +kernel
theorem dX4_begin_11 : decode cX4_begin 11 = .ok (.iconst 0, 1) := by decide +kernel
theorem dX4_begin_12 : decode cX4_begin 12 = .ok (.putfield 18, 3) := by decide +kernel
theorem dX4_begin_15 : decode cX4_begin 15 = .ok (.aload_n 0, 1) := by decide +kernel
theorem dX4_begin_16 : decode cX4_begin 16 = .ok (.getfield 21, 3) := by decide +kernel
theorem dX4_begin_19 : decode cX4_begin 19 = .ok (.iconst 0, 1) := by decide +kernel
theorem dX4_begin_20 : decode cX4_begin 20 = .ok (.invokestatic 25, 3) := by decide +kernel
theorem dX4_begin_23 : decode cX4_begin 23 = .ok (.return_, 1) := by decide +kernel
theorem dX4_copyFrom_0 : decode cX4_copyFrom 0 = .ok (.aload_n 0, 1) := by decide +kernel
theorem dX4_copyFrom_1 : decode cX4_copyFrom 1 = .ok (.aload_n 1, 1) := by decide +kernel
theorem dX4_copyFrom_2 : decode cX4_copyFrom 2 = .ok (.getfield 9, 3) := by decide +kernel
theorem dX4_copyFrom_5 : decode cX4_copyFrom 5 = .ok (.putfield 9, 3) := by decide +kernel
theorem dX4_copyFrom_8 : decode cX4_copyFrom 8 = .ok (.aload_n 0, 1) := by decide +kernel
theorem dX4_copyFrom_9 : decode cX4_copyFrom 9 = .ok (.aload_n 1, 1) := by decide +kernel
theorem dX4_copyFrom_10 : decode cX4_copyFrom 10 = .ok (.getfield 15, 3) := by decide +kernel
theorem dX4_copyFrom_13 : decode cX4_copyFrom 13 = .ok (.putfield 15, 3) := by decide +kernel
theorem dX4_copyFrom_16 : decode cX4_copyFrom 16 = .ok (.aload_n 0, 1) := by decide +kernel
theorem dX4_copyFrom_17 : decode cX4_copyFrom 17 = .ok (.aload_n 1, 1) := by decide +kernel
theorem dX4_copyFrom_18 : decode cX4_copyFrom 18 = .ok (.getfield 18, 3) := by decide +kernel
theorem dX4_copyFrom_21 : decode cX4_copyFrom 21 = .ok (.putfield 18, 3) := by decide +kernel
theorem dX4_copyFrom_24 : decode cX4_copyFrom 24 = .ok (.aload_n 1, 1) := by decide +kernel
theorem dX4_copyFrom_25 : decode cX4_copyFrom 25 = .ok (.getfield 21, 3) := by decide +kernel
theorem dX4_copyFrom_28 : decode cX4_copyFrom 28 = .ok (.iconst 0, 1) := by decide +kernel
theorem dX4_copyFrom_29 : decode cX4_copyFrom 29 = .ok (.aload_n 0, 1) := by decide +kernel
theorem dX4_copyFrom_30 : decode cX4_copyFrom 30 = .ok (.getfield 21, 3) := by decide +kernel
theorem dX4_copyFrom_33 : decode cX4_copyFrom 33 = .ok (.iconst 0, 1) := by decide +kernel
theorem dX4_copyFrom_34 : decode cX4_copyFrom 34 = .ok (.bipush 7, 2) := by decide +kernel
theorem dX4_copyFrom_36 : decode cX4_copyFrom 36 = .ok (.invokestatic 31, 3) := by decide +kernel
theorem dX4_copyFrom_39 : decode cX4_copyFrom 39 = .ok (.return_, 1) := by decide +kernel
theorem dX4_canCome_0 : decode cX4_canCome 0 = .ok (.aload_n 0, 1) := by decide +kernel
theorem dX4_canCome_1 : decode cX4_canCome 1 = .ok (.getfield 15, 3) := by decide +kernel
theorem dX4_canCome_4 : decode cX4_canCome 4 = .ok (.aload_n 1, 1) := by decide +kernel
theorem dX4_canCome_5 : decode cX4_canCome 5 = .ok (.aload_n 0, 1) := by decide +kernel
theorem dX4_canCome_6 : decode cX4_canCome 6 = .ok (.getfield 9, 3) := by decide +kernel
theorem dX4_canCome_9 : decode cX4_canCome 9 = .ok (.iload_n 2, 1) := by decide +kernel
theorem dX4_canCome_10 : decode cX4_canCome 10 = .ok (.invokevirtual 37, 3) := by decide +kernel
theorem dX4_canCome_13 : decode cX4_canCome 13 = .ok (.iadd, 1) := by decide +kernel
theorem dX4_canCome_14 : decode cX4_canCome 14 = .ok (.aload_n 1, 1) := by decide +kernel
theorem dX4_canCome_15 : decode cX4_canCome 15 = .ok (.getfield 43, 3) := by decide +kernel
theorem dX4_canCome_18 : decode cX4_canCome 18 = .ok (.iconst 2, 1) := by decide +kernel
theorem dX4_canCome_19 : decode cX4_canCome 19 = .ok (.iaload, 1) := by decide +kernel
theorem dX4_canCome_20 : decode cX4_canCome 20 = .ok (.if_icmp .gt 7, 3) := by decide +kernel
theorem dX4_canCome_23 : decode cX4_canCome 23 = .ok (.iconst 1, 1) := by decide +kernel
theorem dX4_canCome_24 : decode cX4_canCome 24 = .ok (.goto 4, 3) := by decide +kernel
theorem dX4_canCome_27 : decode cX4_canCome 27 = .ok (.iconst 0, 1) := by decide +kernel
theorem dX4_canCome_28 : decode cX4_canCome 28 = .ok (.ireturn, 1) := by decide +kernel
theorem dX4_come_0 : decode cX4_come 0 = .ok (.aload_n 0, 1) := by decide +kernel
theorem dX4_come_1 : decode cX4_come 1 = .ok (.dup, 1) := by decide +kernel
theorem dX4_come_2 : decode cX4_come 2 = .ok (.getfield 15, 3) := by decide +kernel
theorem dX4_come_5 : decode cX4_come 5 = .ok (.aload_n 1, 1) := by decide +kernel
theorem dX4_come_6 : decode cX4_come 6 = .ok (.aload_n 0, 1) := by decide +kernel
theorem dX4_come_7 : decode cX4_come 7 = .ok (.getfield 9, 3) := by decide +kernel
theorem dX4_come_10 : decode cX4_come 10 = .ok (.iload_n 2, 1) := by decide +kernel
theorem dX4_come_11 : decode cX4_come 11 = .ok (.invokevirtual 37, 3) := by decide +kernel
theorem dX4_come_14 : decode cX4_come 14 = .ok (.iadd, 1) := by decide +kernel
theorem dX4_come_15 : decode cX4_come 15 = .ok (.putfield 15, 3) := by decide +kernel
theorem dX4_come_18 : decode cX4_come 18 = .ok (.aload_n 0, 1) := by decide +kernel
theorem dX4_come_19 : decode cX4_come 19 = .ok (.iload_n 2, 1) := by decide +kernel
theorem dX4_come_20 : decode cX4_come 20 = .ok (.putfield 9, 3) := by decide +kernel
theorem dX4_come_23 : decode cX4_come 23 = .ok (.return_, 1) := by decide +kernel
theorem dX4_mayTake_0 : decode cX4_mayTake 0 = .ok (.aload_n 1, 1) := by decide +kernel
theorem dX4_mayTake_1 : decode cX4_mayTake 1 = .ok (.getfield 46, 3) := by decide +kernel
theorem dX4_mayTake_4 : decode cX4_mayTake 4 = .ok (.iload_n 2, 1) := by decide +kernel
theorem dX4_mayTake_5 : decode cX4_mayTake 5 = .ok (.aaload, 1) := by decide +kernel
theorem dX4_mayTake_6 : decode cX4_mayTake 6 = .ok (.astore_n 3, 1) := by decide +kernel
theorem dX4_mayTake_7 : decode cX4_mayTake 7 = .ok (.aload_n 3, 1) := by decide +kernel
theorem dX4_mayTake_8 : decode cX4_mayTake 8 = .ok (.getfield 50, 3) := by decide +kernel
theorem dX4_mayTake_11 : decode cX4_mayTake 11 = .ok (.aload_n 0, 1) := by decide +kernel
theorem dX4_mayTake_12 : decode cX4_mayTake 12 = .ok (.getfield 9, 3) := by decide +kernel
theorem dX4_mayTake_15 : decode cX4_mayTake 15 = .ok (.if_icmp .ne 18, 3) := by decide +kernel
theorem dX4_mayTake_18 : decode cX4_mayTake 18 = .ok (.aload_n 3, 1) := by decide +kernel
theorem dX4_mayTake_19 : decode cX4_mayTake 19 = .ok (.aload_n 0, 1) := by decide +kernel
theorem dX4_mayTake_20 : decode cX4_mayTake 20 = .ok (.getfield 21, 3) := by decide +kernel
theorem dX4_mayTake_23 : decode cX4_mayTake 23 = .ok (.invokevirtual 55, 3) := by decide +kernel
theorem dX4_mayTake_26 : decode cX4_mayTake 26 = .ok (.ifCond .eq 7, 3) := by decide +kernel
theorem dX4_mayTake_29 : decode cX4_mayTake 29 = .ok (.iconst 1, 1) := by decide +kernel
theorem dX4_mayTake_30 : decode cX4_mayTake 30 = .ok (.goto 4, 3) := by decide +kernel
theorem dX4_mayTake_33 : decode cX4_mayTake 33 = .ok (.iconst 0, 1) := by decide +kernel
theorem dX4_mayTake_34 : decode cX4_mayTake 34 = .ok (.ireturn, 1) := by decide +kernel
theorem dX4_take_0 : decode cX4_take 0 = .ok (.aload_n 1, 1) := by decide +kernel
theorem dX4_take_1 : decode cX4_take 1 = .ok (.getfield 46, 3) := by decide +kernel
theorem dX4_take_4 : decode cX4_take 4 = .ok (.iload_n 2, 1) := by decide +kernel
theorem dX4_take_5 : decode cX4_take 5 = .ok (.aaload, 1) := by decide +kernel
theorem dX4_take_6 : decode cX4_take 6 = .ok (.aload_n 0, 1) := by decide +kernel
theorem dX4_take_7 : decode cX4_take 7 = .ok (.getfield 15, 3) := by decide +kernel
theorem dX4_take_10 : decode cX4_take 10 = .ok (.aload_n 0, 1) := by decide +kernel
theorem dX4_take_11 : decode cX4_take 11 = .ok (.getfield 21, 3) := by decide +kernel
theorem dX4_take_14 : decode cX4_take 14 = .ok (.iload_n 2, 1) := by decide +kernel
theorem dX4_take_15 : decode cX4_take 15 = .ok (.iaload, 1) := by decide +kernel
theorem dX4_take_16 : decode cX4_take 16 = .ok (.aload_n 1, 1) := by decide +kernel
theorem dX4_take_17 : decode cX4_take 17 = .ok (.getfield 43, 3) := by decide +kernel
theorem dX4_take_20 : decode cX4_take 20 = .ok (.invokevirtual 59, 3) := by decide +kernel
theorem dX4_take_23 : decode cX4_take 23 = .ok (.istore_n 3, 1) := by decide +kernel
theorem dX4_take_24 : decode cX4_take 24 = .ok (.aload_n 0, 1) := by decide +kernel
theorem dX4_take_25 : decode cX4_take 25 = .ok (.getfield 21, 3) := by decide +kernel
theorem dX4_take_28 : decode cX4_take 28 = .ok (.iload_n 2, 1) := by decide +kernel
theorem dX4_take_29 : decode cX4_take 29 = .ok (.dup2, 1) := by decide +kernel
theorem dX4_take_30 : decode cX4_take 30 = .ok (.iaload, 1) := by decide +kernel
theorem dX4_take_31 : decode cX4_take 31 = .ok (.iconst 1, 1) := by decide +kernel
theorem dX4_take_32 : decode cX4_take 32 = .ok (.iadd, 1) := by decide +kernel
theorem dX4_take_33 : decode cX4_take 33 = .ok (.iastore, 1) := by decide +kernel
theorem dX4_take_34 : decode cX4_take 34 = .ok (.aload_n 0, 1) := by decide +kernel
theorem dX4_take_35 : decode cX4_take 35 = .ok (.dup, 1) := by decide +kernel
theorem dX4_take_36 : decode cX4_take 36 = .ok (.getfield 18, 3) := by decide +kernel
theorem dX4_take_39 : decode cX4_take 39 = .ok (.iload_n 3, 1) := by decide +kernel
theorem dX4_take_40 : decode cX4_take 40 = .ok (.iadd, 1) := by decide +kernel
theorem dX4_take_41 : decode cX4_take 41 = .ok (.putfield 18, 3) := by decide +kernel
theorem dX4_take_44 : decode cX4_take 44 = .ok (.iload_n 3, 1) := by decide +kernel
theorem dX4_take_45 : decode cX4_take 45 = .ok (.ireturn, 1) := by decide +kernel
theorem dX4_timesHad_0 : decode cX4_timesHad 0 = .ok (.iconst 0, 1) := by decide +kernel
theorem dX4_timesHad_1 : decode cX4_timesHad 1 = .ok (.istore_n 1, 1) := by decide +kernel
theorem dX4_timesHad_2 : decode cX4_timesHad 2 = .ok (.iconst 0, 1) := by decide +kernel
theorem dX4_timesHad_3 : decode cX4_timesHad 3 = .ok (.istore_n 2, 1) := by decide +kernel
theorem dX4_timesHad_4 : decode cX4_timesHad 4 = .ok (.iload_n 2, 1) := by decide +kernel
theorem dX4_timesHad_5 : decode cX4_timesHad 5 = .ok (.bipush 7, 2) := by decide +kernel
theorem dX4_timesHad_7 : decode cX4_timesHad 7 = .ok (.if_icmp .ge 18, 3) := by decide +kernel
theorem dX4_timesHad_10 : decode cX4_timesHad 10 = .ok (.iload_n 1, 1) := by decide +kernel
theorem dX4_timesHad_11 : decode cX4_timesHad 11 = .ok (.aload_n 0, 1) := by decide +kernel
theorem dX4_timesHad_12 : decode cX4_timesHad 12 = .ok (.getfield 21, 3) := by decide +kernel
theorem dX4_timesHad_15 : decode cX4_timesHad 15 = .ok (.iload_n 2, 1) := by decide +kernel
theorem dX4_timesHad_16 : decode cX4_timesHad 16 = .ok (.iaload, 1) := by decide +kernel
theorem dX4_timesHad_17 : decode cX4_timesHad 17 = .ok (.iadd, 1) := by decide +kernel
theorem dX4_timesHad_18 : decode cX4_timesHad 18 = .ok (.istore_n 1, 1) := by decide +kernel
theorem dX4_timesHad_19 : decode cX4_timesHad 19 = .ok (.iinc 2 1, 3) := by decide +kernel
theorem dX4_timesHad_22 : decode cX4_timesHad 22 = .ok (.goto (-18), 3) := by decide +kernel
theorem dX4_timesHad_25 : decode cX4_timesHad 25 = .ok (.iload_n 1, 1) := by decide +kernel
theorem dX4_timesHad_26 : decode cX4_timesHad 26 = .ok (.ireturn, 1) := by decide +kernel
theorem dX5_init_0 : decode cX5_init 0 = .ok (.aload_n 0, 1) := by decide +kernel
theorem dX5_init_1 : decode cX5_init 1 = .ok (.invokespecial 3, 3) := by decide +kernel
theorem dX5_init_4 : decode cX5_init 4 = .ok (.aload_n 0, 1) := by decide +kernel
theorem dX5_init_5 : decode cX5_init 5 = .ok (.new 9, 3) := by decide +kernel
theorem dX5_init_8 : decode cX5_init 8 = .ok (.dup, 1) := by decide +kernel
theorem dX5_init_9 : decode cX5_init 9 = .ok (.invokespecial 11, 3) := by decide +kernel
theorem dX5_init_12 : decode cX5_init 12 = .ok (.putfield 12, 3) := by decide +kernel
theorem dX5_init_15 : decode cX5_init 15 = .ok (.aload_n 0, 1) := by decide +kernel
theorem dX5_init_16 : decode cX5_init 16 = .ok (.bipush 7, 2) := by decide +kernel
theorem dX5_init_18 : decode cX5_init 18 = .ok (.newarray .int, 2) := by decide +kernel
theorem dX5_init_20 : decode cX5_init 20 = .ok (.putfield 18, 3) := by decide +kernel
theorem dX5_init_23 : decode cX5_init 23 = .ok (.aload_n 0, 1) := by decide +kernel
theorem dX5_init_24 : decode cX5_init 24 = .ok (.bipush 7, 2) := by decide +kernel
theorem dX5_init_26 : decode cX5_init 26 = .ok (.newarray .int, 2) := by decide +kernel
theorem dX5_init_28 : decode cX5_init 28 = .ok (.putfield 22, 3) := by decide +kernel
theorem dX5_init_31 : decode cX5_init 31 = .ok (.aload_n 0, 1) := by decide +kernel
theorem dX5_init_32 : decode cX5_init 32 = .ok (.iconst 0, 1) := by decide +kernel
theorem dX5_init_33 : decode cX5_init 33 = .ok (.putfield 25, 3) := by decide +kernel
theorem dX5_init_36 : decode cX5_init 36 = .ok (.aload_n 0, 1) := by decide +kernel
theorem dX5_init_37 : decode cX5_init 37 = .ok (.iconst 0, 1) := by decide +kernel
theorem dX5_init_38 : decode cX5_init 38 = .ok (.putfield 29, 3) := by decide +kernel
theorem dX5_init_41 : decode cX5_init 41 = .ok (.return_, 1) := by decide +kernel
theorem dX5_live_0 : decode cX5_live 0 = .ok (.aload_n 0, 1) := by decide +kernel
theorem dX5_live_1 : decode cX5_live 1 = .ok (.getfield 12, 3) := by decide +kernel
theorem dX5_live_4 : decode cX5_live 4 = .ok (.aload_n 1, 1) := by decide +kernel
theorem dX5_live_5 : decode cX5_live 5 = .ok (.getfield 32, 3) := by decide +kernel
theorem dX5_live_8 : decode cX5_live 8 = .ok (.iconst 3, 1) := by decide +kernel
theorem dX5_live_9 : decode cX5_live 9 = .ok (.iaload, 1) := by decide +kernel
theorem dX5_live_10 : decode cX5_live 10 = .ok (.invokevirtual 37, 3) := by decide +kernel
theorem dX5_live_13 : decode cX5_live 13 = .ok (.aload_n 0, 1) := by decide +kernel
theorem dX5_live_14 : decode cX5_live 14 = .ok (.aload_n 1, 1) := by decide +kernel
theorem dX5_live_15 : decode cX5_live 15 = .ok (.invokevirtual 41, 3) := by decide +kernel
theorem dX5_live_18 : decode cX5_live 18 = .ok (.iload_n 2, 1) := by decide +kernel
theorem dX5_live_19 : decode cX5_live 19 = .ok (.ifCond .eq 8, 3) := by decide +kernel
theorem dX5_live_22 : decode cX5_live 22 = .ok (.iload_n 2, 1) := by decide +kernel
theorem dX5_live_23 : decode cX5_live 23 = .ok (.iconst 1, 1) := by decide +kernel
theorem dX5_live_24 : decode cX5_live 24 = .ok (.if_icmp .ne 12, 3) := by decide +kernel
theorem dX5_live_27 : decode cX5_live 27 = .ok (.aload_n 0, 1) := by decide +kernel
theorem dX5_live_28 : decode cX5_live 28 = .ok (.aload_n 1, 1) := by decide +kernel
theorem dX5_live_29 : decode cX5_live 29 = .ok (.iload_n 2, 1) := by decide +kernel
theorem dX5_live_30 : decode cX5_live 30 = .ok (.invokevirtual 45, 3) := by decide +kernel
theorem dX5_live_33 : decode cX5_live 33 = .ok (.goto 13, 3) := by decide +kernel
theorem dX5_live_36 : decode cX5_live 36 = .ok (.iload_n 2, 1) := by decide +kernel
theorem dX5_live_37 : decode cX5_live 37 = .ok (.iconst 2, 1) := by decide +kernel
theorem dX5_live_38 : decode cX5_live 38 = .ok (.if_icmp .ne 8, 3) := by decide +kernel
theorem dX5_live_41 : decode cX5_live 41 = .ok (.aload_n 0, 1) := by decide +kernel
theorem dX5_live_42 : decode cX5_live 42 = .ok (.aload_n 1, 1) := by decide +kernel
theorem dX5_live_43 : decode cX5_live 43 = .ok (.invokevirtual 49, 3) := by decide +kernel
theorem dX5_live_46 : decode cX5_live 46 = .ok (.aload_n 0, 1) := by decide +kernel
theorem dX5_live_47 : decode cX5_live 47 = .ok (.getfield 12, 3) := by decide +kernel
theorem dX5_live_50 : decode cX5_live 50 = .ok (.areturn, 1) := by decide +kernel
theorem dX5_seekThings_0 : decode cX5_seekThings 0 = .ok (.aload_n 0, 1) := by decide +kernel
theorem dX5_seekThings_1 : decode cX5_seekThings 1 = .ok (.aload_n 1, 1) := by decide +kernel
theorem dX5_seekThings_2 : decode cX5_seekThings 2 = .ok (.iload_n 2, 1) := by decide +kernel
theorem dX5_seekThings_3 : decode cX5_seekThings 3 = .ok (.invokevirtual 52, 3) := by decide +kernel
theorem dX5_seekThings_6 : decode cX5_seekThings 6 = .ok (.istore_n 3, 1) := by decide +kernel
theorem dX5_seekThings_7 : decode cX5_seekThings 7 = .ok (.iconst 0, 1) := by decide +kernel
theorem dX5_seekThings_8 : decode cX5_seekThings 8 = .ok (.istore 4, 2) := by decide +kernel
theorem dX5_seekThings_10 : decode cX5_seekThings 10 = .ok (.iload 4, 2) := by decide +kernel
theorem dX5_seekThings_12 : decode cX5_seekThings 12 = .ok (.sipush 999, 3) := by decide +kernel
theorem dX5_seekThings_15 : decode cX5_seekThings 15 = .ok (.if_icmp .ge 34, 3) := by decide +kernel
theorem dX5_seekThings_18 : decode cX5_seekThings 18 = .ok (.iload_n 3, 1) := by decide +kernel
theorem dX5_seekThings_19 : decode cX5_seekThings 19 = .ok (.ifCond .lt 30, 3) := by decide +kernel
theorem dX5_seekThings_22 : decode cX5_seekThings 22 = .ok (.aload_n 0, 1) := by decide +kernel
theorem dX5_seekThings_23 : decode cX5_seekThings 23 = .ok (.getfield 12, 3) := by decide +kernel
theorem dX5_seekThings_26 : decode cX5_seekThings 26 = .ok (.aload_n 1, 1) := by decide +kernel
theorem dX5_seekThings_27 : decode cX5_seekThings 27 = .ok (.iload_n 3, 1) := by decide +kernel
theorem dX5_seekThings_28 : decode cX5_seekThings 28 = .ok (.invokevirtual 56, 3) := by decide +kernel
theorem dX5_seekThings_31 : decode cX5_seekThings 31 = .ok (.aload_n 0, 1) := by decide +kernel
theorem dX5_seekThings_32 : decode cX5_seekThings 32 = .ok (.aload_n 1, 1) := by decide +kernel
theorem dX5_seekThings_33 : decode cX5_seekThings 33 = .ok (.invokevirtual 41, 3) := by decide +kernel
theorem dX5_seekThings_36 : decode cX5_seekThings 36 = .ok (.aload_n 0, 1) := by decide +kernel
theorem dX5_seekThings_37 : decode cX5_seekThings 37 = .ok (.aload_n 1, 1) := by decide +kernel
theorem dX5_seekThings_38 : decode cX5_seekThings 38 = .ok (.iload_n 2, 1) := by decide +kernel
theorem dX5_seekThings_39 : decode cX5_seekThings 39 = .ok (.invokevirtual 52, 3) := by decide +kernel
theorem dX5_seekThings_42 : decode cX5_seekThings 42 = .ok (.istore_n 3, 1) := by decide +kernel
theorem dX5_seekThings_43 : decode cX5_seekThings 43 = .ok (.iinc 4 1, 3) := by decide +kernel
theorem dX5_seekThings_46 : decode cX5_seekThings 46 = .ok (.goto (-36), 3) := by decide +kernel
theorem dX5_seekThings_49 : decode cX5_seekThings 49 = .ok (.return_, 1) := by decide +kernel
theorem dX5_nextPlace_0 : decode cX5_nextPlace 0 = .ok (.iconst (-1), 1) := by decide +kernel
theorem dX5_nextPlace_1 : decode cX5_nextPlace 1 = .ok (.istore_n 3, 1) := by decide +kernel
theorem dX5_nextPlace_2 : decode cX5_nextPlace 2 = .ok (.iconst 0, 1) := by decide +kernel
theorem dX5_nextPlace_3 : decode cX5_nextPlace 3 = .ok (.istore 4, 2) := by decide +kernel
theorem dX5_nextPlace_5 : decode cX5_nextPlace 5 = .ok (.iconst 0, 1) := by decide +kernel
theorem dX5_nextPlace_6 : decode cX5_nextPlace 6 = .ok (.istore 5, 2) := by decide +kernel
theorem dX5_nextPlace_8 : decode cX5_nextPlace 8 = .ok (.iload 5, 2) := by decide +kernel
theorem dX5_nextPlace_10 : decode cX5_nextPlace 10 = .ok (.aload_n 1, 1) := by decide +kernel
theorem dX5_nextPlace_11 : decode cX5_nextPlace 11 = .ok (.getfield 59, 3) := by decide +kernel
theorem dX5_nextPlace_14 : decode cX5_nextPlace 14 = .ok (.if_icmp .ge 118, 3) := by decide +kernel
theorem dX5_nextPlace_17 : decode cX5_nextPlace 17 = .ok (.aload_n 1, 1) := by decide +kernel
theorem dX5_nextPlace_18 : decode cX5_nextPlace 18 = .ok (.aload_n 0, 1) := by decide +kernel
theorem dX5_nextPlace_19 : decode cX5_nextPlace 19 = .ok (.getfield 12, 3) := by decide +kernel
theorem dX5_nextPlace_22 : decode cX5_nextPlace 22 = .ok (.getfield 62, 3) := by decide +kernel
theorem dX5_nextPlace_25 : decode cX5_nextPlace 25 = .ok (.iload 5, 2) := by decide +kernel
theorem dX5_nextPlace_27 : decode cX5_nextPlace 27 = .ok (.invokevirtual 65, 3) := by decide +kernel
theorem dX5_nextPlace_30 : decode cX5_nextPlace 30 = .ok (.istore 6, 2) := by decide +kernel
theorem dX5_nextPlace_32 : decode cX5_nextPlace 32 = .ok (.iload 5, 2) := by decide +kernel
theorem dX5_nextPlace_34 : decode cX5_nextPlace 34 = .ok (.aload_n 0, 1) := by decide +kernel
theorem dX5_nextPlace_35 : decode cX5_nextPlace 35 = .ok (.getfield 12, 3) := by decide +kernel
theorem dX5_nextPlace_38 : decode cX5_nextPlace 38 = .ok (.getfield 62, 3) := by decide +kernel
theorem dX5_nextPlace_41 : decode cX5_nextPlace 41 = .ok (.if_icmp .eq 85, 3) := by decide +kernel
theorem dX5_nextPlace_44 : decode cX5_nextPlace 44 = .ok (.aload_n 0, 1) := by decide +kernel
theorem dX5_nextPlace_45 : decode cX5_nextPlace 45 = .ok (.getfield 12, 3) := by decide +kernel
theorem dX5_nextPlace_48 : decode cX5_nextPlace 48 = .ok (.aload_n 1, 1) := by decide +kernel
theorem dX5_nextPlace_49 : decode cX5_nextPlace 49 = .ok (.iload 5, 2) := by decide +kernel
theorem dX5_nextPlace_51 : decode cX5_nextPlace 51 = .ok (.invokevirtual 69, 3) := by decide +kernel
theorem dX5_nextPlace_54 : decode cX5_nextPlace 54 = .ok (.ifCond .eq 72, 3) := by decide +kernel
theorem dX5_nextPlace_57 : decode cX5_nextPlace 57 = .ok (.aload_n 0, 1) := by decide +kernel
theorem dX5_nextPlace_58 : decode cX5_nextPlace 58 = .ok (.aload_n 1, 1) := by decide +kernel
theorem dX5_nextPlace_59 : decode cX5_nextPlace 59 = .ok (.iload 5, 2) := by decide +kernel
theorem dX5_nextPlace_61 : decode cX5_nextPlace 61 = .ok (.aload_n 0, 1) := by decide +kernel
theorem dX5_nextPlace_62 : decode cX5_nextPlace 62 = .ok (.getfield 12, 3) := by decide +kernel
theorem dX5_nextPlace_65 : decode cX5_nextPlace 65 = .ok (.getfield 73, 3) := by decide +kernel
theorem dX5_nextPlace_68 : decode cX5_nextPlace 68 = .ok (.iload 6, 2) := by decide +kernel
theorem dX5_nextPlace_70 : decode cX5_nextPlace 70 = .ok (.iadd, 1) := by decide +kernel
theorem dX5_nextPlace_71 : decode cX5_nextPlace 71 = .ok (.invokevirtual 76, 3) := by decide +kernel
theorem dX5_nextPlace_74 : decode cX5_nextPlace 74 = .ok (.ifCond .eq 52, 3) := by decide +kernel
theorem dX5_nextPlace_77 : decode cX5_nextPlace 77 = .ok (.iload_n 2, 1) := by decide +kernel
theorem dX5_nextPlace_78 : decode cX5_nextPlace 78 = .ok (.ifCond .ne 18, 3) := by decide +kernel
theorem dX5_nextPlace_81 : decode cX5_nextPlace 81 = .ok (.iload 6, 2) := by decide +kernel
theorem dX5_nextPlace_83 : decode cX5_nextPlace 83 = .ok (.iload 4, 2) := by decide +kernel
theorem dX5_nextPlace_85 : decode cX5_nextPlace 85 = .ok (.if_icmp .ge 7, 3) := by decide +kernel
theorem dX5_nextPlace_88 : decode cX5_nextPlace 88 = .ok (.iconst 1, 1) := by decide +kernel
theorem dX5_nextPlace_89 : decode cX5_nextPlace 89 = .ok (.goto 19, 3) := by decide +kernel
theorem dX5_nextPlace_92 : decode cX5_nextPlace 92 = .ok (.iconst 0, 1) := by decide +kernel
theorem dX5_nextPlace_93 : decode cX5_nextPlace 93 = .ok (.goto 15, 3) := by decide +kernel
theorem dX5_nextPlace_96 : decode cX5_nextPlace 96 = .ok (.iload 6, 2) := by decide +kernel
theorem dX5_nextPlace_98 : decode cX5_nextPlace 98 = .ok (.iload 4, 2) := by decide +kernel
theorem dX5_nextPlace_100 : decode cX5_nextPlace 100 = .ok (.if_icmp .le 7, 3) := by decide +kernel
theorem dX5_nextPlace_103 : decode cX5_nextPlace 103 = .ok (.iconst 1, 1) := by decide +kernel
theorem dX5_nextPlace_104 : decode cX5_nextPlace 104 = .ok (.goto 4, 3) := by decide +kernel
theorem dX5_nextPlace_107 : decode cX5_nextPlace 107 = .ok (.iconst 0, 1) := by decide +kernel
theorem dX5_nextPlace_108 : decode cX5_nextPlace 108 = .ok (.istore 7, 2) := by decide +kernel
theorem dX5_nextPlace_110 : decode cX5_nextPlace 110 = .ok (.iload_n 3, 1) := by decide +kernel
theorem dX5_nextPlace_111 : decode cX5_nextPlace 111 = .ok (.ifCond .lt 8, 3) := by decide +kernel
theorem dX5_nextPlace_114 : decode cX5_nextPlace 114 = .ok (.iload 7, 2) := by decide +kernel
theorem dX5_nextPlace_116 : decode cX5_nextPlace 116 = .ok (.ifCond .eq 10, 3) := by decide +kernel
theorem dX5_nextPlace_119 : decode cX5_nextPlace 119 = .ok (.iload 5, 2) := by decide +kernel
theorem dX5_nextPlace_121 : decode cX5_nextPlace 121 = .ok (.istore_n 3, 1) := by decide +kernel
theorem dX5_nextPlace_122 : decode cX5_nextPlace 122 = .ok (.iload 6, 2) := by decide +kernel
theorem dX5_nextPlace_124 : decode cX5_nextPlace 124 = .ok (.istore 4, 2) := by decide +kernel
theorem dX5_nextPlace_126 : decode cX5_nextPlace 126 = .ok (.iinc 5 1, 3) := by decide +kernel
theorem dX5_nextPlace_129 : decode cX5_nextPlace 129 = .ok (.goto (-121), 3) := by decide +kernel
theorem dX5_nextPlace_132 : decode cX5_nextPlace 132 = .ok (.iload_n 3, 1) := by decide +kernel
theorem dX5_nextPlace_133 : decode cX5_nextPlace 133 = .ok (.ireturn, 1) := by decide +kernel
theorem dX5_isWorthGoing_0 : decode cX5_isWorthGoing 0 = .ok (.iconst 0, 1) := by decide +kernel
theorem dX5_isWorthGoing_1 : decode cX5_isWorthGoing 1 = .ok (.istore 4, 2) := by decide +kernel
theorem dX5_isWorthGoing_3 : decode cX5_isWorthGoing 3 = .ok (.iload 4, 2) := by decide +kernel
theorem dX5_isWorthGoing_5 : decode cX5_isWorthGoing 5 = .ok (.aload_n 1, 1) := by decide +kernel
theorem dX5_isWorthGoing_6 : decode cX5_isWorthGoing 6 = .ok (.getfield 80, 3) := by decide +kernel
theorem dX5_isWorthGoing_9 : decode cX5_isWorthGoing 9 = .ok (.if_icmp .ge 67, 3) := by decide +kernel
theorem dX5_isWorthGoing_12 : decode cX5_isWorthGoing 12 = .ok (.aload_n 1, 1) := by decide +kernel
theorem dX5_isWorthGoing_13 : decode cX5_isWorthGoing 13 = .ok (.getfield 83, 3) := by decide +kernel
theorem dX5_isWorthGoing_16 : decode cX5_isWorthGoing 16 = .ok (.iload 4, 2) := by decide +kernel
theorem dX5_isWorthGoing_18 : decode cX5_isWorthGoing 18 = .ok (.aaload, 1) := by decide +kernel
theorem dX5_isWorthGoing_19 : decode cX5_isWorthGoing 19 = .ok (.astore 5, 2) := by decide +kernel
theorem dX5_isWorthGoing_21 : decode cX5_isWorthGoing 21 = .ok (.aload 5, 2) := by decide +kernel
theorem dX5_isWorthGoing_23 : decode cX5_isWorthGoing 23 = .ok (.getfield 87, 3) := by decide +kernel
theorem dX5_isWorthGoing_26 : decode cX5_isWorthGoing 26 = .ok (.iload_n 2, 1) := by decide +kernel
theorem dX5_isWorthGoing_27 : decode cX5_isWorthGoing 27 = .ok (.if_icmp .ne 43, 3) := by decide +kernel
theorem dX5_isWorthGoing_30 : decode cX5_isWorthGoing 30 = .ok (.aload 5, 2) := by decide +kernel
theorem dX5_isWorthGoing_32 : decode cX5_isWorthGoing 32 = .ok (.aload_n 0, 1) := by decide +kernel
theorem dX5_isWorthGoing_33 : decode cX5_isWorthGoing 33 = .ok (.getfield 12, 3) := by decide +kernel
theorem dX5_isWorthGoing_36 : decode cX5_isWorthGoing 36 = .ok (.getfield 92, 3) := by decide +kernel
theorem dX5_isWorthGoing_39 : decode cX5_isWorthGoing 39 = .ok (.invokevirtual 95, 3) := by decide +kernel
theorem dX5_isWorthGoing_42 : decode cX5_isWorthGoing 42 = .ok (.ifCond .eq 28, 3) := by decide +kernel
theorem dX5_isWorthGoing_45 : decode cX5_isWorthGoing 45 = .ok (.aload 5, 2) := by decide +kernel
theorem dX5_isWorthGoing_47 : decode cX5_isWorthGoing 47 = .ok (.iload_n 3, 1) := by decide +kernel
theorem dX5_isWorthGoing_48 : decode cX5_isWorthGoing 48 = .ok (.aload_n 0, 1) := by decide +kernel
theorem dX5_isWorthGoing_49 : decode cX5_isWorthGoing 49 = .ok (.getfield 12, 3) := by decide +kernel
theorem dX5_isWorthGoing_52 : decode cX5_isWorthGoing 52 = .ok (.getfield 92, 3) := by decide +kernel
theorem dX5_isWorthGoing_55 : decode cX5_isWorthGoing 55 = .ok (.iload 4, 2) := by decide +kernel
theorem dX5_isWorthGoing_57 : decode cX5_isWorthGoing 57 = .ok (.iaload, 1) := by decide +kernel
theorem dX5_isWorthGoing_58 : decode cX5_isWorthGoing 58 = .ok (.aload_n 1, 1) := by decide +kernel
theorem dX5_isWorthGoing_59 : decode cX5_isWorthGoing 59 = .ok (.getfield 32, 3) := by decide +kernel
theorem dX5_isWorthGoing_62 : decode cX5_isWorthGoing 62 = .ok (.invokevirtual 99, 3) := by decide +kernel
theorem dX5_isWorthGoing_65 : decode cX5_isWorthGoing 65 = .ok (.ifCond .le 5, 3) := by decide +kernel
theorem dX5_isWorthGoing_68 : decode cX5_isWorthGoing 68 = .ok (.iconst 1, 1) := by decide +kernel
theorem dX5_isWorthGoing_69 : decode cX5_isWorthGoing 69 = .ok (.ireturn, 1) := by decide +kernel
theorem dX5_isWorthGoing_70 : decode cX5_isWorthGoing 70 = .ok (.iinc 4 1, 3) := by decide +kernel
theorem dX5_isWorthGoing_73 : decode cX5_isWorthGoing 73 = .ok (.goto (-70), 3) := by decide +kernel
theorem dX5_isWorthGoing_76 : decode cX5_isWorthGoing 76 = .ok (.iconst 0, 1) := by decide +kernel
theorem dX5_isWorthGoing_77 : decode cX5_isWorthGoing 77 = .ok (.ireturn, 1) := by decide +kernel
theorem dX5_walkOrder_0 : decode cX5_walkOrder 0 = .ok (.iconst 0, 1) := by decide +kernel
theorem dX5_walkOrder_1 : decode cX5_walkOrder 1 = .ok (.istore_n 2, 1) := by decide +kernel
theorem dX5_walkOrder_2 : decode cX5_walkOrder 2 = .ok (.iload_n 2, 1) := by decide +kernel
theorem dX5_walkOrder_3 : decode cX5_walkOrder 3 = .ok (.aload_n 1, 1) := by decide +kernel
theorem dX5_walkOrder_4 : decode cX5_walkOrder 4 = .ok (.getfield 103, 3) := by decide +kernel
theorem dX5_walkOrder_7 : decode cX5_walkOrder 7 = .ok (.if_icmp .ge 45, 3) := by decide +kernel
theorem dX5_walkOrder_10 : decode cX5_walkOrder 10 = .ok (.aload_n 0, 1) := by decide +kernel
theorem dX5_walkOrder_11 : decode cX5_walkOrder 11 = .ok (.getfield 12, 3) := by decide +kernel
theorem dX5_walkOrder_14 : decode cX5_walkOrder 14 = .ok (.aload_n 1, 1) := by decide +kernel
theorem dX5_walkOrder_15 : decode cX5_walkOrder 15 = .ok (.aload_n 1, 1) := by decide +kernel
theorem dX5_walkOrder_16 : decode cX5_walkOrder 16 = .ok (.getfield 106, 3) := by decide +kernel
theorem dX5_walkOrder_19 : decode cX5_walkOrder 19 = .ok (.iload_n 2, 1) := by decide +kernel
theorem dX5_walkOrder_20 : decode cX5_walkOrder 20 = .ok (.iaload, 1) := by decide +kernel
theorem dX5_walkOrder_21 : decode cX5_walkOrder 21 = .ok (.invokevirtual 69, 3) := by decide +kernel
theorem dX5_walkOrder_24 : decode cX5_walkOrder 24 = .ok (.ifCond .eq 22, 3) := by decide +kernel
theorem dX5_walkOrder_27 : decode cX5_walkOrder 27 = .ok (.aload_n 0, 1) := by decide +kernel
theorem dX5_walkOrder_28 : decode cX5_walkOrder 28 = .ok (.getfield 12, 3) := by decide +kernel
theorem dX5_walkOrder_31 : decode cX5_walkOrder 31 = .ok (.aload_n 1, 1) := by decide +kernel
theorem dX5_walkOrder_32 : decode cX5_walkOrder 32 = .ok (.aload_n 1, 1) := by decide +kernel
theorem dX5_walkOrder_33 : decode cX5_walkOrder 33 = .ok (.getfield 106, 3) := by decide +kernel
theorem dX5_walkOrder_36 : decode cX5_walkOrder 36 = .ok (.iload_n 2, 1) := by decide +kernel
theorem dX5_walkOrder_37 : decode cX5_walkOrder 37 = .ok (.iaload, 1) := by decide +kernel
theorem dX5_walkOrder_38 : decode cX5_walkOrder 38 = .ok (.invokevirtual 56, 3) := by decide +kernel
theorem dX5_walkOrder_41 : decode cX5_walkOrder 41 = .ok (.aload_n 0, 1) := by decide +kernel
theorem dX5_walkOrder_42 : decode cX5_walkOrder 42 = .ok (.aload_n 1, 1) := by decide +kernel
theorem dX5_walkOrder_43 : decode cX5_walkOrder 43 = .ok (.invokevirtual 41, 3) := by decide +kernel
theorem dX5_walkOrder_46 : decode cX5_walkOrder 46 = .ok (.iinc 2 1, 3) := by decide +kernel
theorem dX5_walkOrder_49 : decode cX5_walkOrder 49 = .ok (.goto (-47), 3) := by decide +kernel
theorem dX5_walkOrder_52 : decode cX5_walkOrder 52 = .ok (.return_, 1) := by decide +kernel
theorem dX5_takeWorthy_0 : decode cX5_takeWorthy 0 = .ok (.iconst 0, 1) := by decide +kernel
theorem dX5_takeWorthy_1 : decode cX5_takeWorthy 1 = .ok (.istore_n 2, 1) := by decide +kernel
theorem dX5_takeWorthy_2 : decode cX5_takeWorthy 2 = .ok (.iload_n 2, 1) := by decide +kernel
theorem dX5_takeWorthy_3 : decode cX5_takeWorthy 3 = .ok (.aload_n 1, 1) := by decide +kernel
theorem dX5_takeWorthy_4 : decode cX5_takeWorthy 4 = .ok (.getfield 80, 3) := by decide +kernel
theorem dX5_takeWorthy_7 : decode cX5_takeWorthy 7 = .ok (.if_icmp .ge 65, 3) := by decide +kernel
theorem dX5_takeWorthy_10 : decode cX5_takeWorthy 10 = .ok (.aload_n 1, 1) := by decide +kernel
theorem dX5_takeWorthy_11 : decode cX5_takeWorthy 11 = .ok (.getfield 83, 3) := by decide +kernel
theorem dX5_takeWorthy_14 : decode cX5_takeWorthy 14 = .ok (.iload_n 2, 1) := by decide +kernel
theorem dX5_takeWorthy_15 : decode cX5_takeWorthy 15 = .ok (.aaload, 1) := by decide +kernel
theorem dX5_takeWorthy_16 : decode cX5_takeWorthy 16 = .ok (.aload_n 0, 1) := by decide +kernel
theorem dX5_takeWorthy_17 : decode cX5_takeWorthy 17 = .ok (.getfield 12, 3) := by decide +kernel
theorem dX5_takeWorthy_20 : decode cX5_takeWorthy 20 = .ok (.getfield 73, 3) := by decide +kernel
theorem dX5_takeWorthy_23 : decode cX5_takeWorthy 23 = .ok (.aload_n 0, 1) := by decide +kernel
theorem dX5_takeWorthy_24 : decode cX5_takeWorthy 24 = .ok (.getfield 12, 3) := by decide +kernel
theorem dX5_takeWorthy_27 : decode cX5_takeWorthy 27 = .ok (.getfield 92, 3) := by decide +kernel
theorem dX5_takeWorthy_30 : decode cX5_takeWorthy 30 = .ok (.iload_n 2, 1) := by decide +kernel
theorem dX5_takeWorthy_31 : decode cX5_takeWorthy 31 = .ok (.iaload, 1) := by decide +kernel
theorem dX5_takeWorthy_32 : decode cX5_takeWorthy 32 = .ok (.aload_n 1, 1) := by decide +kernel
theorem dX5_takeWorthy_33 : decode cX5_takeWorthy 33 = .ok (.getfield 32, 3) := by decide +kernel
theorem dX5_takeWorthy_36 : decode cX5_takeWorthy 36 = .ok (.invokevirtual 99, 3) := by decide +kernel
theorem dX5_takeWorthy_39 : decode cX5_takeWorthy 39 = .ok (.istore_n 3, 1) := by decide +kernel
theorem dX5_takeWorthy_40 : decode cX5_takeWorthy 40 = .ok (.iload_n 3, 1) := by decide +kernel
theorem dX5_takeWorthy_41 : decode cX5_takeWorthy 41 = .ok (.ifCond .le 25, 3) := by decide +kernel
theorem dX5_takeWorthy_44 : decode cX5_takeWorthy 44 = .ok (.aload_n 0, 1) := by decide +kernel
theorem dX5_takeWorthy_45 : decode cX5_takeWorthy 45 = .ok (.getfield 12, 3) := by decide +kernel
theorem dX5_takeWorthy_48 : decode cX5_takeWorthy 48 = .ok (.aload_n 1, 1) := by decide +kernel
theorem dX5_takeWorthy_49 : decode cX5_takeWorthy 49 = .ok (.iload_n 2, 1) := by decide +kernel
theorem dX5_takeWorthy_50 : decode cX5_takeWorthy 50 = .ok (.invokevirtual 109, 3) := by decide +kernel
theorem dX5_takeWorthy_53 : decode cX5_takeWorthy 53 = .ok (.ifCond .eq 13, 3) := by decide +kernel
theorem dX5_takeWorthy_56 : decode cX5_takeWorthy 56 = .ok (.aload_n 0, 1) := by decide +kernel
theorem dX5_takeWorthy_57 : decode cX5_takeWorthy 57 = .ok (.getfield 12, 3) := by decide +kernel
theorem dX5_takeWorthy_60 : decode cX5_takeWorthy 60 = .ok (.aload_n 1, 1) := by decide +kernel
theorem dX5_takeWorthy_61 : decode cX5_takeWorthy 61 = .ok (.iload_n 2, 1) := by decide +kernel
theorem dX5_takeWorthy_62 : decode cX5_takeWorthy 62 = .ok (.invokevirtual 112, 3) := by decide +kernel
theorem dX5_takeWorthy_65 : decode cX5_takeWorthy 65 = .ok (.pop, 1) := by decide +kernel
theorem dX5_takeWorthy_66 : decode cX5_takeWorthy 66 = .ok (.iinc 2 1, 3) := by decide +kernel
theorem dX5_takeWorthy_69 : decode cX5_takeWorthy 69 = .ok (.goto (-67), 3) := by decide +kernel
theorem dX5_takeWorthy_72 : decode cX5_takeWorthy 72 = .ok (.return_, 1) := by decide +kernel
theorem dX5_takeOpen_0 : decode cX5_takeOpen 0 = .ok (.iconst 0, 1) := by decide +kernel
theorem dX5_takeOpen_1 : decode cX5_takeOpen 1 = .ok (.istore_n 2, 1) := by decide +kernel
theorem dX5_takeOpen_2 : decode cX5_takeOpen 2 = .ok (.iload_n 2, 1) := by decide +kernel
theorem dX5_takeOpen_3 : decode cX5_takeOpen 3 = .ok (.aload_n 1, 1) := by decide +kernel
theorem dX5_takeOpen_4 : decode cX5_takeOpen 4 = .ok (.getfield 80, 3) := by decide +kernel
theorem dX5_takeOpen_7 : decode cX5_takeOpen 7 = .ok (.if_icmp .ge 31, 3) := by decide +kernel
theorem dX5_takeOpen_10 : decode cX5_takeOpen 10 = .ok (.aload_n 0, 1) := by decide +kernel
theorem dX5_takeOpen_11 : decode cX5_takeOpen 11 = .ok (.getfield 12, 3) := by decide +kernel
theorem dX5_takeOpen_14 : decode cX5_takeOpen 14 = .ok (.aload_n 1, 1) := by decide +kernel
theorem dX5_takeOpen_15 : decode cX5_takeOpen 15 = .ok (.iload_n 2, 1) := by decide +kernel
theorem dX5_takeOpen_16 : decode cX5_takeOpen 16 = .ok (.invokevirtual 109, 3) := by decide +kernel
theorem dX5_takeOpen_19 : decode cX5_takeOpen 19 = .ok (.ifCond .eq 13, 3) := by decide +kernel
theorem dX5_takeOpen_22 : decode cX5_takeOpen 22 = .ok (.aload_n 0, 1) := by decide +kernel
theorem dX5_takeOpen_23 : decode cX5_takeOpen 23 = .ok (.getfield 12, 3) := by decide +kernel
theorem dX5_takeOpen_26 : decode cX5_takeOpen 26 = .ok (.aload_n 1, 1) := by decide +kernel
theorem dX5_takeOpen_27 : decode cX5_takeOpen 27 = .ok (.iload_n 2, 1) := by decide +kernel
theorem dX5_takeOpen_28 : decode cX5_takeOpen 28 = .ok (.invokevirtual 112, 3) := by decide +kernel
theorem dX5_takeOpen_31 : decode cX5_takeOpen 31 = .ok (.pop, 1) := by decide +kernel
theorem dX5_takeOpen_32 : decode cX5_takeOpen 32 = .ok (.iinc 2 1, 3) := by decide +kernel
theorem dX5_takeOpen_35 : decode cX5_takeOpen 35 = .ok (.goto (-33), 3) := by decide +kernel
theorem dX5_takeOpen_38 : decode cX5_takeOpen 38 = .ok (.return_, 1) := by decide +kernel
theorem dX5_seekBest_0 : decode cX5_seekBest 0 = .ok (.aload_n 0, 1) := by decide +kernel
theorem dX5_seekBest_1 : decode cX5_seekBest 1 = .ok (.iconst 0, 1) := by decide +kernel
theorem dX5_seekBest_2 : decode cX5_seekBest 2 = .ok (.putfield 25, 3) := by decide +kernel
theorem dX5_seekBest_5 : decode cX5_seekBest 5 = .ok (.aload_n 0, 1) := by decide +kernel
theorem dX5_seekBest_6 : decode cX5_seekBest 6 = .ok (.iconst 0, 1) := by decide +kernel
theorem dX5_seekBest_7 : decode cX5_seekBest 7 = .ok (.putfield 29, 3) := by decide +kernel
theorem dX5_seekBest_10 : decode cX5_seekBest 10 = .ok (.aload_n 0, 1) := by decide +kernel
theorem dX5_seekBest_11 : decode cX5_seekBest 11 = .ok (.getfield 12, 3) := by decide +kernel
theorem dX5_seekBest_14 : decode cX5_seekBest 14 = .ok (.aload_n 1, 1) := by decide +kernel
theorem dX5_seekBest_15 : decode cX5_seekBest 15 = .ok (.getfield 32, 3) := by decide +kernel
theorem dX5_seekBest_18 : decode cX5_seekBest 18 = .ok (.iconst 3, 1) := by decide +kernel
theorem dX5_seekBest_19 : decode cX5_seekBest 19 = .ok (.iaload, 1) := by decide +kernel
theorem dX5_seekBest_20 : decode cX5_seekBest 20 = .ok (.invokevirtual 37, 3) := by decide +kernel
theorem dX5_seekBest_23 : decode cX5_seekBest 23 = .ok (.aload_n 0, 1) := by decide +kernel
theorem dX5_seekBest_24 : decode cX5_seekBest 24 = .ok (.aload_n 1, 1) := by decide +kernel
theorem dX5_seekBest_25 : decode cX5_seekBest 25 = .ok (.iconst 0, 1) := by decide +kernel
theorem dX5_seekBest_26 : decode cX5_seekBest 26 = .ok (.invokevirtual 115, 3) := by decide +kernel
theorem dX5_seekBest_29 : decode cX5_seekBest 29 = .ok (.return_, 1) := by decide +kernel
theorem dX5_seekHouse_0 : decode cX5_seekHouse 0 = .ok (.aload_n 0, 1) := by decide +kernel
theorem dX5_seekHouse_1 : decode cX5_seekHouse 1 = .ok (.iconst 0, 1) := by decide +kernel
theorem dX5_seekHouse_2 : decode cX5_seekHouse 2 = .ok (.putfield 29, 3) := by decide +kernel
theorem dX5_seekHouse_5 : decode cX5_seekHouse 5 = .ok (.iconst 0, 1) := by decide +kernel
theorem dX5_seekHouse_6 : decode cX5_seekHouse 6 = .ok (.istore_n 2, 1) := by decide +kernel
theorem dX5_seekHouse_7 : decode cX5_seekHouse 7 = .ok (.iconst 0, 1) := by decide +kernel
theorem dX5_seekHouse_8 : decode cX5_seekHouse 8 = .ok (.istore_n 3, 1) := by decide +kernel
theorem dX5_seekHouse_9 : decode cX5_seekHouse 9 = .ok (.iload_n 3, 1) := by decide +kernel
theorem dX5_seekHouse_10 : decode cX5_seekHouse 10 = .ok (.aload_n 1, 1) := by decide +kernel
theorem dX5_seekHouse_11 : decode cX5_seekHouse 11 = .ok (.getfield 59, 3) := by decide +kernel
theorem dX5_seekHouse_14 : decode cX5_seekHouse 14 = .ok (.if_icmp .ge 40, 3) := by decide +kernel
theorem dX5_seekHouse_17 : decode cX5_seekHouse 17 = .ok (.aload_n 0, 1) := by decide +kernel
theorem dX5_seekHouse_18 : decode cX5_seekHouse 18 = .ok (.getfield 29, 3) := by decide +kernel
theorem dX5_seekHouse_21 : decode cX5_seekHouse 21 = .ok (.istore 4, 2) := by decide +kernel
theorem dX5_seekHouse_23 : decode cX5_seekHouse 23 = .ok (.aload_n 0, 1) := by decide +kernel
theorem dX5_seekHouse_24 : decode cX5_seekHouse 24 = .ok (.getfield 12, 3) := by decide +kernel
theorem dX5_seekHouse_27 : decode cX5_seekHouse 27 = .ok (.iload_n 3, 1) := by decide +kernel
theorem dX5_seekHouse_28 : decode cX5_seekHouse 28 = .ok (.invokevirtual 37, 3) := by decide +kernel
theorem dX5_seekHouse_31 : decode cX5_seekHouse 31 = .ok (.aload_n 0, 1) := by decide +kernel
theorem dX5_seekHouse_32 : decode cX5_seekHouse 32 = .ok (.aload_n 1, 1) := by decide +kernel
theorem dX5_seekHouse_33 : decode cX5_seekHouse 33 = .ok (.iconst 0, 1) := by decide +kernel
theorem dX5_seekHouse_34 : decode cX5_seekHouse 34 = .ok (.invokevirtual 115, 3) := by decide +kernel
theorem dX5_seekHouse_37 : decode cX5_seekHouse 37 = .ok (.aload_n 0, 1) := by decide +kernel
theorem dX5_seekHouse_38 : decode cX5_seekHouse 38 = .ok (.getfield 29, 3) := by decide +kernel
theorem dX5_seekHouse_41 : decode cX5_seekHouse 41 = .ok (.iload 4, 2) := by decide +kernel
theorem dX5_seekHouse_43 : decode cX5_seekHouse 43 = .ok (.if_icmp .le 5, 3) := by decide +kernel
theorem dX5_seekHouse_46 : decode cX5_seekHouse 46 = .ok (.iload_n 3, 1) := by decide +kernel
theorem dX5_seekHouse_47 : decode cX5_seekHouse 47 = .ok (.istore_n 2, 1) := by decide +kernel
theorem dX5_seekHouse_48 : decode cX5_seekHouse 48 = .ok (.iinc 3 1, 3) := by decide +kernel
theorem dX5_seekHouse_51 : decode cX5_seekHouse 51 = .ok (.goto (-42), 3) := by decide +kernel
theorem dX5_seekHouse_54 : decode cX5_seekHouse 54 = .ok (.iload_n 2, 1) := by decide +kernel
theorem dX5_seekHouse_55 : decode cX5_seekHouse 55 = .ok (.ireturn, 1) := by decide +kernel
theorem dX5_seekOn_0 : decode cX5_seekOn 0 = .ok (.aload_n 0, 1) := by decide +kernel
theorem dX5_seekOn_1 : decode cX5_seekOn 1 = .ok (.getfield 12, 3) := by decide +kernel
theorem dX5_seekOn_4 : decode cX5_seekOn 4 = .ok (.getfield 118, 3) := by decide +kernel
theorem dX5_seekOn_7 : decode cX5_seekOn 7 = .ok (.aload_n 0, 1) := by decide +kernel
theorem dX5_seekOn_8 : decode cX5_seekOn 8 = .ok (.getfield 29, 3) := by decide +kernel
theorem dX5_seekOn_11 : decode cX5_seekOn 11 = .ok (.if_icmp .le 33, 3) := by decide +kernel
theorem dX5_seekOn_14 : decode cX5_seekOn 14 = .ok (.aload_n 0, 1) := by decide +kernel
theorem dX5_seekOn_15 : decode cX5_seekOn 15 = .ok (.aload_n 0, 1) := by decide +kernel
theorem dX5_seekOn_16 : decode cX5_seekOn 16 = .ok (.getfield 12, 3) := by decide +kernel
theorem dX5_seekOn_19 : decode cX5_seekOn 19 = .ok (.getfield 118, 3) := by decide +kernel
theorem dX5_seekOn_22 : decode cX5_seekOn 22 = .ok (.putfield 29, 3) := by decide +kernel
theorem dX5_seekOn_25 : decode cX5_seekOn 25 = .ok (.aload_n 0, 1) := by decide +kernel
theorem dX5_seekOn_26 : decode cX5_seekOn 26 = .ok (.iload_n 2, 1) := by decide +kernel
theorem dX5_seekOn_27 : decode cX5_seekOn 27 = .ok (.putfield 25, 3) := by decide +kernel
theorem dX5_seekOn_30 : decode cX5_seekOn 30 = .ok (.aload_n 0, 1) := by decide +kernel
theorem dX5_seekOn_31 : decode cX5_seekOn 31 = .ok (.getfield 18, 3) := by decide +kernel
theorem dX5_seekOn_34 : decode cX5_seekOn 34 = .ok (.iconst 0, 1) := by decide +kernel
theorem dX5_seekOn_35 : decode cX5_seekOn 35 = .ok (.aload_n 0, 1) := by decide +kernel
theorem dX5_seekOn_36 : decode cX5_seekOn 36 = .ok (.getfield 22, 3) := by decide +kernel
theorem dX5_seekOn_39 : decode cX5_seekOn 39 = .ok (.iconst 0, 1) := by decide +kernel
theorem dX5_seekOn_40 : decode cX5_seekOn 40 = .ok (.iload_n 2, 1) := by decide +kernel
theorem dX5_seekOn_41 : decode cX5_seekOn 41 = .ok (.invokestatic 121, 3) := by decide +kernel
theorem dX5_seekOn_44 : decode cX5_seekOn 44 = .ok (.iload_n 2, 1) := by decide +kernel
theorem dX5_seekOn_45 : decode cX5_seekOn 45 = .ok (.bipush 7, 2) := by decide +kernel
theorem dX5_seekOn_47 : decode cX5_seekOn 47 = .ok (.if_icmp .ge 23, 3) := by decide +kernel
theorem dX5_seekOn_50 : decode cX5_seekOn 50 = .ok (.aload_n 0, 1) := by decide +kernel
theorem dX5_seekOn_51 : decode cX5_seekOn 51 = .ok (.getfield 12, 3) := by decide +kernel
theorem dX5_seekOn_54 : decode cX5_seekOn 54 = .ok (.getfield 118, 3) := by decide +kernel
theorem dX5_seekOn_57 : decode cX5_seekOn 57 = .ok (.aload_n 0, 1) := by decide +kernel
theorem dX5_seekOn_58 : decode cX5_seekOn 58 = .ok (.aload_n 1, 1) := by decide +kernel
theorem dX5_seekOn_59 : decode cX5_seekOn 59 = .ok (.invokevirtual 127, 3) := by decide +kernel
theorem dX5_seekOn_62 : decode cX5_seekOn 62 = .ok (.iadd, 1) := by decide +kernel
theorem dX5_seekOn_63 : decode cX5_seekOn 63 = .ok (.aload_n 0, 1) := by decide +kernel
theorem dX5_seekOn_64 : decode cX5_seekOn 64 = .ok (.getfield 29, 3) := by decide +kernel
theorem dX5_seekOn_67 : decode cX5_seekOn 67 = .ok (.if_icmp .gt 4, 3) := by decide +kernel
theorem dX5_seekOn_70 : decode cX5_seekOn 70 = .ok (.return_, 1) := by decide +kernel
theorem dX5_seekOn_71 : decode cX5_seekOn 71 = .ok (.iconst 0, 1) := by decide +kernel
theorem dX5_seekOn_72 : decode cX5_seekOn 72 = .ok (.istore_n 3, 1) := by decide +kernel
theorem dX5_seekOn_73 : decode cX5_seekOn 73 = .ok (.iload_n 3, 1) := by decide +kernel
theorem dX5_seekOn_74 : decode cX5_seekOn 74 = .ok (.aload_n 1, 1) := by decide +kernel
theorem dX5_seekOn_75 : decode cX5_seekOn 75 = .ok (.getfield 80, 3) := by decide +kernel
theorem dX5_seekOn_78 : decode cX5_seekOn 78 = .ok (.if_icmp .ge 48, 3) := by decide +kernel
theorem dX5_seekOn_81 : decode cX5_seekOn 81 = .ok (.aload_n 0, 1) := by decide +kernel
theorem dX5_seekOn_82 : decode cX5_seekOn 82 = .ok (.getfield 12, 3) := by decide +kernel
theorem dX5_seekOn_85 : decode cX5_seekOn 85 = .ok (.getfield 92, 3) := by decide +kernel
theorem dX5_seekOn_88 : decode cX5_seekOn 88 = .ok (.iload_n 3, 1) := by decide +kernel
theorem dX5_seekOn_89 : decode cX5_seekOn 89 = .ok (.iaload, 1) := by decide +kernel
theorem dX5_seekOn_90 : decode cX5_seekOn 90 = .ok (.ifCond .ne 30, 3) := by decide +kernel
theorem dX5_seekOn_93 : decode cX5_seekOn 93 = .ok (.aload_n 0, 1) := by decide +kernel
theorem dX5_seekOn_94 : decode cX5_seekOn 94 = .ok (.getfield 12, 3) := by decide +kernel
theorem dX5_seekOn_97 : decode cX5_seekOn 97 = .ok (.aload_n 1, 1) := by decide +kernel
theorem dX5_seekOn_98 : decode cX5_seekOn 98 = .ok (.aload_n 1, 1) := by decide +kernel
theorem dX5_seekOn_99 : decode cX5_seekOn 99 = .ok (.getfield 83, 3) := by decide +kernel
theorem dX5_seekOn_102 : decode cX5_seekOn 102 = .ok (.iload_n 3, 1) := by decide +kernel
theorem dX5_seekOn_103 : decode cX5_seekOn 103 = .ok (.aaload, 1) := by decide +kernel
theorem dX5_seekOn_104 : decode cX5_seekOn 104 = .ok (.getfield 87, 3) := by decide +kernel
theorem dX5_seekOn_107 : decode cX5_seekOn 107 = .ok (.invokevirtual 69, 3) := by decide +kernel
theorem dX5_seekOn_110 : decode cX5_seekOn 110 = .ok (.ifCond .eq 10, 3) := by decide +kernel
theorem dX5_seekOn_113 : decode cX5_seekOn 113 = .ok (.aload_n 0, 1) := by decide +kernel
theorem dX5_seekOn_114 : decode cX5_seekOn 114 = .ok (.aload_n 1, 1) := by decide +kernel
theorem dX5_seekOn_115 : decode cX5_seekOn 115 = .ok (.iload_n 3, 1) := by decide +kernel
theorem dX5_seekOn_116 : decode cX5_seekOn 116 = .ok (.iload_n 2, 1) := by decide +kernel
theorem dX5_seekOn_117 : decode cX5_seekOn 117 = .ok (.invokevirtual 131, 3) := by decide +kernel
theorem dX5_seekOn_120 : decode cX5_seekOn 120 = .ok (.iinc 3 1, 3) := by decide +kernel
theorem dX5_seekOn_123 : decode cX5_seekOn 123 = .ok (.goto (-50), 3) := by decide +kernel
theorem dX5_seekOn_126 : decode cX5_seekOn 126 = .ok (.return_, 1) := by decide +kernel
theorem dX5_seekWith_0 : decode cX5_seekWith 0 = .ok (.aload_n 0, 1) := by decide +kernel
theorem dX5_seekWith_1 : decode cX5_seekWith 1 = .ok (.getfield 12, 3) := by decide +kernel
theorem dX5_seekWith_4 : decode cX5_seekWith 4 = .ok (.getfield 62, 3) := by decide +kernel
theorem dX5_seekWith_7 : decode cX5_seekWith 7 = .ok (.istore 4, 2) := by decide +kernel
theorem dX5_seekWith_9 : decode cX5_seekWith 9 = .ok (.aload_n 0, 1) := by decide +kernel
theorem dX5_seekWith_10 : decode cX5_seekWith 10 = .ok (.getfield 12, 3) := by decide +kernel
theorem dX5_seekWith_13 : decode cX5_seekWith 13 = .ok (.getfield 73, 3) := by decide +kernel
theorem dX5_seekWith_16 : decode cX5_seekWith 16 = .ok (.istore 5, 2) := by decide +kernel
theorem dX5_seekWith_18 : decode cX5_seekWith 18 = .ok (.aload_n 0, 1) := by decide +kernel
theorem dX5_seekWith_19 : decode cX5_seekWith 19 = .ok (.getfield 12, 3) := by decide +kernel
theorem dX5_seekWith_22 : decode cX5_seekWith 22 = .ok (.getfield 118, 3) := by decide +kernel
theorem dX5_seekWith_25 : decode cX5_seekWith 25 = .ok (.istore 6, 2) := by decide +kernel
theorem dX5_seekWith_27 : decode cX5_seekWith 27 = .ok (.aload_n 0, 1) := by decide +kernel
theorem dX5_seekWith_28 : decode cX5_seekWith 28 = .ok (.getfield 12, 3) := by decide +kernel
theorem dX5_seekWith_31 : decode cX5_seekWith 31 = .ok (.aload_n 1, 1) := by decide +kernel
theorem dX5_seekWith_32 : decode cX5_seekWith 32 = .ok (.aload_n 1, 1) := by decide +kernel
theorem dX5_seekWith_33 : decode cX5_seekWith 33 = .ok (.getfield 83, 3) := by decide +kernel
theorem dX5_seekWith_36 : decode cX5_seekWith 36 = .ok (.iload_n 2, 1) := by decide +kernel
theorem dX5_seekWith_37 : decode cX5_seekWith 37 = .ok (.aaload, 1) := by decide +kernel
theorem dX5_seekWith_38 : decode cX5_seekWith 38 = .ok (.getfield 87, 3) := by decide +kernel
theorem dX5_seekWith_41 : decode cX5_seekWith 41 = .ok (.invokevirtual 56, 3) := by decide +kernel
theorem dX5_seekWith_44 : decode cX5_seekWith 44 = .ok (.aload_n 0, 1) := by decide +kernel
theorem dX5_seekWith_45 : decode cX5_seekWith 45 = .ok (.getfield 12, 3) := by decide +kernel
theorem dX5_seekWith_48 : decode cX5_seekWith 48 = .ok (.aload_n 1, 1) := by decide +kernel
theorem dX5_seekWith_49 : decode cX5_seekWith 49 = .ok (.iload_n 2, 1) := by decide +kernel
theorem dX5_seekWith_50 : decode cX5_seekWith 50 = .ok (.invokevirtual 109, 3) := by decide +kernel
theorem dX5_seekWith_53 : decode cX5_seekWith 53 = .ok (.ifCond .eq 38, 3) := by decide +kernel
theorem dX5_seekWith_56 : decode cX5_seekWith 56 = .ok (.aload_n 0, 1) := by decide +kernel
theorem dX5_seekWith_57 : decode cX5_seekWith 57 = .ok (.getfield 12, 3) := by decide +kernel
theorem dX5_seekWith_60 : decode cX5_seekWith 60 = .ok (.aload_n 1, 1) := by decide +kernel
theorem dX5_seekWith_61 : decode cX5_seekWith 61 = .ok (.iload_n 2, 1) := by decide +kernel
theorem dX5_seekWith_62 : decode cX5_seekWith 62 = .ok (.invokevirtual 112, 3) := by decide +kernel
theorem dX5_seekWith_65 : decode cX5_seekWith 65 = .ok (.pop, 1) := by decide +kernel
theorem dX5_seekWith_66 : decode cX5_seekWith 66 = .ok (.aload_n 0, 1) := by decide +kernel
theorem dX5_seekWith_67 : decode cX5_seekWith 67 = .ok (.getfield 18, 3) := by decide +kernel
theorem dX5_seekWith_70 : decode cX5_seekWith 70 = .ok (.iload_n 3, 1) := by decide +kernel
theorem dX5_seekWith_71 : decode cX5_seekWith 71 = .ok (.iload_n 2, 1) := by decide +kernel
theorem dX5_seekWith_72 : decode cX5_seekWith 72 = .ok (.iastore, 1) := by decide +kernel
theorem dX5_seekWith_73 : decode cX5_seekWith 73 = .ok (.aload_n 0, 1) := by decide +kernel
theorem dX5_seekWith_74 : decode cX5_seekWith 74 = .ok (.aload_n 1, 1) := by decide +kernel
theorem dX5_seekWith_75 : decode cX5_seekWith 75 = .ok (.iload_n 3, 1) := by decide +kernel
theorem dX5_seekWith_76 : decode cX5_seekWith 76 = .ok (.iconst 1, 1) := by decide +kernel
theorem dX5_seekWith_77 : decode cX5_seekWith 77 = .ok (.iadd, 1) := by decide +kernel
theorem dX5_seekWith_78 : decode cX5_seekWith 78 = .ok (.invokevirtual 115, 3) := by decide +kernel
theorem dX5_seekWith_81 : decode cX5_seekWith 81 = .ok (.aload_n 0, 1) := by decide +kernel
theorem dX5_seekWith_82 : decode cX5_seekWith 82 = .ok (.getfield 12, 3) := by decide +kernel
theorem dX5_seekWith_85 : decode cX5_seekWith 85 = .ok (.getfield 92, 3) := by decide +kernel
theorem dX5_seekWith_88 : decode cX5_seekWith 88 = .ok (.iload_n 2, 1) := by decide +kernel
theorem dX5_seekWith_89 : decode cX5_seekWith 89 = .ok (.iconst 0, 1) := by decide +kernel
theorem dX5_seekWith_90 : decode cX5_seekWith 90 = .ok (.iastore, 1) := by decide +kernel
theorem dX5_seekWith_91 : decode cX5_seekWith 91 = .ok (.aload_n 0, 1) := by decide +kernel
theorem dX5_seekWith_92 : decode cX5_seekWith 92 = .ok (.getfield 12, 3) := by decide +kernel
theorem dX5_seekWith_95 : decode cX5_seekWith 95 = .ok (.iload 4, 2) := by decide +kernel
theorem dX5_seekWith_97 : decode cX5_seekWith 97 = .ok (.putfield 62, 3) := by decide +kernel
theorem dX5_seekWith_100 : decode cX5_seekWith 100 = .ok (.aload_n 0, 1) := by decide +kernel
theorem dX5_seekWith_101 : decode cX5_seekWith 101 = .ok (.getfield 12, 3) := by decide +kernel
theorem dX5_seekWith_104 : decode cX5_seekWith 104 = .ok (.iload 5, 2) := by decide +kernel
theorem dX5_seekWith_106 : decode cX5_seekWith 106 = .ok (.putfield 73, 3) := by decide +kernel
theorem dX5_seekWith_109 : decode cX5_seekWith 109 = .ok (.aload_n 0, 1) := by decide +kernel
theorem dX5_seekWith_110 : decode cX5_seekWith 110 = .ok (.getfield 12, 3) := by decide +kernel
theorem dX5_seekWith_113 : decode cX5_seekWith 113 = .ok (.iload 6, 2) := by decide +kernel
theorem dX5_seekWith_115 : decode cX5_seekWith 115 = .ok (.putfield 118, 3) := by decide +kernel
theorem dX5_seekWith_118 : decode cX5_seekWith 118 = .ok (.return_, 1) := by decide +kernel
theorem dX5_mostToCome_0 : decode cX5_mostToCome 0 = .ok (.aload_n 1, 1) := by decide +kernel
theorem dX5_mostToCome_1 : decode cX5_mostToCome 1 = .ok (.getfield 32, 3) := by decide +kernel
theorem dX5_mostToCome_4 : decode cX5_mostToCome 4 = .ok (.iconst 2, 1) := by decide +kernel
theorem dX5_mostToCome_5 : decode cX5_mostToCome 5 = .ok (.iaload, 1) := by decide +kernel
theorem dX5_mostToCome_6 : decode cX5_mostToCome 6 = .ok (.istore_n 2, 1) := by decide +kernel
theorem dX5_mostToCome_7 : decode cX5_mostToCome 7 = .ok (.iconst 0, 1) := by decide +kernel
theorem dX5_mostToCome_8 : decode cX5_mostToCome 8 = .ok (.istore_n 3, 1) := by decide +kernel
theorem dX5_mostToCome_9 : decode cX5_mostToCome 9 = .ok (.iconst 0, 1) := by decide +kernel
theorem dX5_mostToCome_10 : decode cX5_mostToCome 10 = .ok (.istore 4, 2) := by decide +kernel
theorem dX5_mostToCome_12 : decode cX5_mostToCome 12 = .ok (.iload 4, 2) := by decide +kernel
theorem dX5_mostToCome_14 : decode cX5_mostToCome 14 = .ok (.aload_n 1, 1) := by decide +kernel
theorem dX5_mostToCome_15 : decode cX5_mostToCome 15 = .ok (.getfield 80, 3) := by decide +kernel
theorem dX5_mostToCome_18 : decode cX5_mostToCome 18 = .ok (.if_icmp .ge 96, 3) := by decide +kernel
theorem dX5_mostToCome_21 : decode cX5_mostToCome 21 = .ok (.aload_n 1, 1) := by decide +kernel
theorem dX5_mostToCome_22 : decode cX5_mostToCome 22 = .ok (.getfield 83, 3) := by decide +kernel
theorem dX5_mostToCome_25 : decode cX5_mostToCome 25 = .ok (.iload 4, 2) := by decide +kernel
theorem dX5_mostToCome_27 : decode cX5_mostToCome 27 = .ok (.aaload, 1) := by decide +kernel
theorem dX5_mostToCome_28 : decode cX5_mostToCome 28 = .ok (.astore 5, 2) := by decide +kernel
theorem dX5_mostToCome_30 : decode cX5_mostToCome 30 = .ok (.aload_n 0, 1) := by decide +kernel
theorem dX5_mostToCome_31 : decode cX5_mostToCome 31 = .ok (.getfield 12, 3) := by decide +kernel
theorem dX5_mostToCome_34 : decode cX5_mostToCome 34 = .ok (.getfield 73, 3) := by decide +kernel
theorem dX5_mostToCome_37 : decode cX5_mostToCome 37 = .ok (.aload_n 1, 1) := by decide +kernel
theorem dX5_mostToCome_38 : decode cX5_mostToCome 38 = .ok (.aload_n 0, 1) := by decide +kernel
theorem dX5_mostToCome_39 : decode cX5_mostToCome 39 = .ok (.getfield 12, 3) := by decide +kernel
theorem dX5_mostToCome_42 : decode cX5_mostToCome 42 = .ok (.getfield 62, 3) := by decide +kernel
theorem dX5_mostToCome_45 : decode cX5_mostToCome 45 = .ok (.aload 5, 2) := by decide +kernel
theorem dX5_mostToCome_47 : decode cX5_mostToCome 47 = .ok (.getfield 87, 3) := by decide +kernel
theorem dX5_mostToCome_50 : decode cX5_mostToCome 50 = .ok (.invokevirtual 65, 3) := by decide +kernel
theorem dX5_mostToCome_53 : decode cX5_mostToCome 53 = .ok (.iadd, 1) := by decide +kernel
theorem dX5_mostToCome_54 : decode cX5_mostToCome 54 = .ok (.istore 6, 2) := by decide +kernel
theorem dX5_mostToCome_56 : decode cX5_mostToCome 56 = .ok (.aload_n 0, 1) := by decide +kernel
theorem dX5_mostToCome_57 : decode cX5_mostToCome 57 = .ok (.getfield 12, 3) := by decide +kernel
theorem dX5_mostToCome_60 : decode cX5_mostToCome 60 = .ok (.getfield 92, 3) := by decide +kernel
theorem dX5_mostToCome_63 : decode cX5_mostToCome 63 = .ok (.iload 4, 2) := by decide +kernel
theorem dX5_mostToCome_65 : decode cX5_mostToCome 65 = .ok (.iaload, 1) := by decide +kernel
theorem dX5_mostToCome_66 : decode cX5_mostToCome 66 = .ok (.ifCond .ne 42, 3) := by decide +kernel
theorem dX5_mostToCome_69 : decode cX5_mostToCome 69 = .ok (.iload 6, 2) := by decide +kernel
theorem dX5_mostToCome_71 : decode cX5_mostToCome 71 = .ok (.iload_n 2, 1) := by decide +kernel
theorem dX5_mostToCome_72 : decode cX5_mostToCome 72 = .ok (.if_icmp .gt 36, 3) := by decide +kernel
theorem dX5_mostToCome_75 : decode cX5_mostToCome 75 = .ok (.aload 5, 2) := by decide +kernel
theorem dX5_mostToCome_77 : decode cX5_mostToCome 77 = .ok (.iload 6, 2) := by decide +kernel
theorem dX5_mostToCome_79 : decode cX5_mostToCome 79 = .ok (.iconst 0, 1) := by decide +kernel
theorem dX5_mostToCome_80 : decode cX5_mostToCome 80 = .ok (.aload_n 1, 1) := by decide +kernel
theorem dX5_mostToCome_81 : decode cX5_mostToCome 81 = .ok (.getfield 32, 3) := by decide +kernel
theorem dX5_mostToCome_84 : decode cX5_mostToCome 84 = .ok (.invokevirtual 99, 3) := by decide +kernel
theorem dX5_mostToCome_87 : decode cX5_mostToCome 87 = .ok (.istore 7, 2) := by decide +kernel
theorem dX5_mostToCome_89 : decode cX5_mostToCome 89 = .ok (.iload_n 3, 1) := by decide +kernel
theorem dX5_mostToCome_90 : decode cX5_mostToCome 90 = .ok (.iload 7, 2) := by decide +kernel
theorem dX5_mostToCome_92 : decode cX5_mostToCome 92 = .ok (.aload 5, 2) := by decide +kernel
theorem dX5_mostToCome_94 : decode cX5_mostToCome 94 = .ok (.iload_n 2, 1) := by decide +kernel
theorem dX5_mostToCome_95 : decode cX5_mostToCome 95 = .ok (.iconst 0, 1) := by decide +kernel
theorem dX5_mostToCome_96 : decode cX5_mostToCome 96 = .ok (.aload_n 1, 1) := by decide +kernel
theorem dX5_mostToCome_97 : decode cX5_mostToCome 97 = .ok (.getfield 32, 3) := by decide +kernel
theorem dX5_mostToCome_100 : decode cX5_mostToCome 100 = .ok (.invokevirtual 99, 3) := by decide +kernel
theorem dX5_mostToCome_103 : decode cX5_mostToCome 103 = .ok (.invokestatic 135, 3) := by decide +kernel
theorem dX5_mostToCome_106 : decode cX5_mostToCome 106 = .ok (.iadd, 1) := by decide +kernel
theorem dX5_mostToCome_107 : decode cX5_mostToCome 107 = .ok (.istore_n 3, 1) := by decide +kernel
theorem dX5_mostToCome_108 : decode cX5_mostToCome 108 = .ok (.iinc 4 1, 3) := by decide +kernel
theorem dX5_mostToCome_111 : decode cX5_mostToCome 111 = .ok (.goto (-99), 3) := by decide +kernel
theorem dX5_mostToCome_114 : decode cX5_mostToCome 114 = .ok (.iload_n 3, 1) := by decide +kernel
theorem dX5_mostToCome_115 : decode cX5_mostToCome 115 = .ok (.ireturn, 1) := by decide +kernel
theorem dX5_strayWorth_0 : decode cX5_strayWorth 0 = .ok (.aload_n 0, 1) := by decide +kernel
theorem dX5_strayWorth_1 : decode cX5_strayWorth 1 = .ok (.getfield 12, 3) := by decide +kernel
theorem dX5_strayWorth_4 : decode cX5_strayWorth 4 = .ok (.aload_n 1, 1) := by decide +kernel
theorem dX5_strayWorth_5 : decode cX5_strayWorth 5 = .ok (.getfield 32, 3) := by decide +kernel
theorem dX5_strayWorth_8 : decode cX5_strayWorth 8 = .ok (.iconst 3, 1) := by decide +kernel
theorem dX5_strayWorth_9 : decode cX5_strayWorth 9 = .ok (.iaload, 1) := by decide +kernel
theorem dX5_strayWorth_10 : decode cX5_strayWorth 10 = .ok (.invokevirtual 37, 3) := by decide +kernel
theorem dX5_strayWorth_13 : decode cX5_strayWorth 13 = .ok (.aload_n 0, 1) := by decide +kernel
theorem dX5_strayWorth_14 : decode cX5_strayWorth 14 = .ok (.aload_n 1, 1) := by decide +kernel
theorem dX5_strayWorth_15 : decode cX5_strayWorth 15 = .ok (.invokevirtual 140, 3) := by decide +kernel
theorem dX5_strayWorth_18 : decode cX5_strayWorth 18 = .ok (.iload_n 3, 1) := by decide +kernel
theorem dX5_strayWorth_19 : decode cX5_strayWorth 19 = .ok (.istore 4, 2) := by decide +kernel
theorem dX5_strayWorth_21 : decode cX5_strayWorth 21 = .ok (.iconst 0, 1) := by decide +kernel
theorem dX5_strayWorth_22 : decode cX5_strayWorth 22 = .ok (.istore 5, 2) := by decide +kernel
theorem dX5_strayWorth_24 : decode cX5_strayWorth 24 = .ok (.iload 5, 2) := by decide +kernel
theorem dX5_strayWorth_26 : decode cX5_strayWorth 26 = .ok (.iload_n 2, 1) := by decide +kernel
theorem dX5_strayWorth_27 : decode cX5_strayWorth 27 = .ok (.if_icmp .ge 67, 3) := by decide +kernel
theorem dX5_strayWorth_30 : decode cX5_strayWorth 30 = .ok (.iload 4, 2) := by decide +kernel
theorem dX5_strayWorth_32 : decode cX5_strayWorth 32 = .ok (.ldc 143, 2) := by decide +kernel
theorem dX5_strayWorth_34 : decode cX5_strayWorth 34 = .ok (.imul, 1) := by decide +kernel
theorem dX5_strayWorth_35 : decode cX5_strayWorth 35 = .ok (.ldc 144, 2) := by decide +kernel
theorem dX5_strayWorth_37 : decode cX5_strayWorth 37 = .ok (.iadd, 1) := by decide +kernel
theorem dX5_strayWorth_38 : decode cX5_strayWorth 38 = .ok (.istore 4, 2) := by decide +kernel
theorem dX5_strayWorth_40 : decode cX5_strayWorth 40 = .ok (.iload 4, 2) := by decide +kernel
theorem dX5_strayWorth_42 : decode cX5_strayWorth 42 = .ok (.ldc 145, 2) := by decide +kernel
theorem dX5_strayWorth_44 : decode cX5_strayWorth 44 = .ok (.iand, 1) := by decide +kernel
theorem dX5_strayWorth_45 : decode cX5_strayWorth 45 = .ok (.sipush 256, 3) := by decide +kernel
theorem dX5_strayWorth_48 : decode cX5_strayWorth 48 = .ok (.idiv, 1) := by decide +kernel
theorem dX5_strayWorth_49 : decode cX5_strayWorth 49 = .ok (.iconst 1, 1) := by decide +kernel
theorem dX5_strayWorth_50 : decode cX5_strayWorth 50 = .ok (.aload_n 1, 1) := by decide +kernel
theorem dX5_strayWorth_51 : decode cX5_strayWorth 51 = .ok (.getfield 59, 3) := by decide +kernel
theorem dX5_strayWorth_54 : decode cX5_strayWorth 54 = .ok (.invokestatic 135, 3) := by decide +kernel
theorem dX5_strayWorth_57 : decode cX5_strayWorth 57 = .ok (.irem, 1) := by decide +kernel
theorem dX5_strayWorth_58 : decode cX5_strayWorth 58 = .ok (.istore 6, 2) := by decide +kernel
theorem dX5_strayWorth_60 : decode cX5_strayWorth 60 = .ok (.aload_n 0, 1) := by decide +kernel
theorem dX5_strayWorth_61 : decode cX5_strayWorth 61 = .ok (.getfield 12, 3) := by decide +kernel
theorem dX5_strayWorth_64 : decode cX5_strayWorth 64 = .ok (.aload_n 1, 1) := by decide +kernel
theorem dX5_strayWorth_65 : decode cX5_strayWorth 65 = .ok (.iload 6, 2) := by decide +kernel
theorem dX5_strayWorth_67 : decode cX5_strayWorth 67 = .ok (.invokevirtual 69, 3) := by decide +kernel
theorem dX5_strayWorth_70 : decode cX5_strayWorth 70 = .ok (.ifCond .eq 13, 3) := by decide +kernel
theorem dX5_strayWorth_73 : decode cX5_strayWorth 73 = .ok (.aload_n 0, 1) := by decide +kernel
theorem dX5_strayWorth_74 : decode cX5_strayWorth 74 = .ok (.getfield 12, 3) := by decide +kernel
theorem dX5_strayWorth_77 : decode cX5_strayWorth 77 = .ok (.aload_n 1, 1) := by decide +kernel
theorem dX5_strayWorth_78 : decode cX5_strayWorth 78 = .ok (.iload 6, 2) := by decide +kernel
theorem dX5_strayWorth_80 : decode cX5_strayWorth 80 = .ok (.invokevirtual 56, 3) := by decide +kernel
theorem dX5_strayWorth_83 : decode cX5_strayWorth 83 = .ok (.aload_n 0, 1) := by decide +kernel
theorem dX5_strayWorth_84 : decode cX5_strayWorth 84 = .ok (.aload_n 1, 1) := by decide +kernel
theorem dX5_strayWorth_85 : decode cX5_strayWorth 85 = .ok (.invokevirtual 140, 3) := by decide +kernel
theorem dX5_strayWorth_88 : decode cX5_strayWorth 88 = .ok (.iinc 5 1, 3) := by decide +kernel
theorem dX5_strayWorth_91 : decode cX5_strayWorth 91 = .ok (.goto (-67), 3) := by decide +kernel
theorem dX5_strayWorth_94 : decode cX5_strayWorth 94 = .ok (.aload_n 0, 1) := by decide +kernel
theorem dX5_strayWorth_95 : decode cX5_strayWorth 95 = .ok (.getfield 12, 3) := by decide +kernel
theorem dX5_strayWorth_98 : decode cX5_strayWorth 98 = .ok (.getfield 118, 3) := by decide +kernel
theorem dX5_strayWorth_101 : decode cX5_strayWorth 101 = .ok (.ireturn, 1) := by decide +kernel
theorem dX5_firstWrong_0 : decode cX5_firstWrong 0 = .ok (.aload_n 0, 1) := by decide +kernel
theorem dX5_firstWrong_1 : decode cX5_firstWrong 1 = .ok (.getfield 12, 3) := by decide +kernel
theorem dX5_firstWrong_4 : decode cX5_firstWrong 4 = .ok (.aload_n 1, 1) := by decide +kernel
theorem dX5_firstWrong_5 : decode cX5_firstWrong 5 = .ok (.getfield 32, 3) := by decide +kernel
theorem dX5_firstWrong_8 : decode cX5_firstWrong 8 = .ok (.iconst 3, 1) := by decide +kernel
theorem dX5_firstWrong_9 : decode cX5_firstWrong 9 = .ok (.iaload, 1) := by decide +kernel
theorem dX5_firstWrong_10 : decode cX5_firstWrong 10 = .ok (.invokevirtual 37, 3) := by decide +kernel
theorem dX5_firstWrong_13 : decode cX5_firstWrong 13 = .ok (.iconst 0, 1) := by decide +kernel
theorem dX5_firstWrong_14 : decode cX5_firstWrong 14 = .ok (.istore 4, 2) := by decide +kernel
theorem dX5_firstWrong_16 : decode cX5_firstWrong 16 = .ok (.iload 4, 2) := by decide +kernel
theorem dX5_firstWrong_18 : decode cX5_firstWrong 18 = .ok (.iload_n 3, 1) := by decide +kernel
theorem dX5_firstWrong_19 : decode cX5_firstWrong 19 = .ok (.if_icmp .ge 50, 3) := by decide +kernel
theorem dX5_firstWrong_22 : decode cX5_firstWrong 22 = .ok (.aload_n 1, 1) := by decide +kernel
theorem dX5_firstWrong_23 : decode cX5_firstWrong 23 = .ok (.aload_n 2, 1) := by decide +kernel
theorem dX5_firstWrong_24 : decode cX5_firstWrong 24 = .ok (.iload 4, 2) := by decide +kernel
theorem dX5_firstWrong_26 : decode cX5_firstWrong 26 = .ok (.iaload, 1) := by decide +kernel
theorem dX5_firstWrong_27 : decode cX5_firstWrong 27 = .ok (.invokevirtual 146, 3) := by decide +kernel
theorem dX5_firstWrong_30 : decode cX5_firstWrong 30 = .ok (.ifCond .eq 18, 3) := by decide +kernel
theorem dX5_firstWrong_33 : decode cX5_firstWrong 33 = .ok (.aload_n 0, 1) := by decide +kernel
theorem dX5_firstWrong_34 : decode cX5_firstWrong 34 = .ok (.getfield 12, 3) := by decide +kernel
theorem dX5_firstWrong_37 : decode cX5_firstWrong 37 = .ok (.aload_n 1, 1) := by decide +kernel
theorem dX5_firstWrong_38 : decode cX5_firstWrong 38 = .ok (.aload_n 2, 1) := by decide +kernel
theorem dX5_firstWrong_39 : decode cX5_firstWrong 39 = .ok (.iload 4, 2) := by decide +kernel
theorem dX5_firstWrong_41 : decode cX5_firstWrong 41 = .ok (.iaload, 1) := by decide +kernel
theorem dX5_firstWrong_42 : decode cX5_firstWrong 42 = .ok (.invokevirtual 69, 3) := by decide +kernel
theorem dX5_firstWrong_45 : decode cX5_firstWrong 45 = .ok (.ifCond .ne 6, 3) := by decide +kernel
theorem dX5_firstWrong_48 : decode cX5_firstWrong 48 = .ok (.iload 4, 2) := by decide +kernel
theorem dX5_firstWrong_50 : decode cX5_firstWrong 50 = .ok (.ireturn, 1) := by decide +kernel
theorem dX5_firstWrong_51 : decode cX5_firstWrong 51 = .ok (.aload_n 0, 1) := by decide +kernel
theorem dX5_firstWrong_52 : decode cX5_firstWrong 52 = .ok (.getfield 12, 3) := by decide +kernel
theorem dX5_firstWrong_55 : decode cX5_firstWrong 55 = .ok (.aload_n 1, 1) := by decide +kernel
theorem dX5_firstWrong_56 : decode cX5_firstWrong 56 = .ok (.aload_n 2, 1) := by decide +kernel
theorem dX5_firstWrong_57 : decode cX5_firstWrong 57 = .ok (.iload 4, 2) := by decide +kernel
theorem dX5_firstWrong_59 : decode cX5_firstWrong 59 = .ok (.iaload, 1) := by decide +kernel
theorem dX5_firstWrong_60 : decode cX5_firstWrong 60 = .ok (.invokevirtual 56, 3) := by decide +kernel
theorem dX5_firstWrong_63 : decode cX5_firstWrong 63 = .ok (.iinc 4 1, 3) := by decide +kernel
theorem dX5_firstWrong_66 : decode cX5_firstWrong 66 = .ok (.goto (-50), 3) := by decide +kernel
theorem dX5_firstWrong_69 : decode cX5_firstWrong 69 = .ok (.bipush (-9), 2) := by decide +kernel
theorem dX5_firstWrong_71 : decode cX5_firstWrong 71 = .ok (.ireturn, 1) := by decide +kernel
theorem dX5_firstOld_0 : decode cX5_firstOld 0 = .ok (.aload_n 0, 1) := by decide +kernel
theorem dX5_firstOld_1 : decode cX5_firstOld 1 = .ok (.aload_n 1, 1) := by decide +kernel
theorem dX5_firstOld_2 : decode cX5_firstOld 2 = .ok (.aload_n 2, 1) := by decide +kernel
theorem dX5_firstOld_3 : decode cX5_firstOld 3 = .ok (.iload_n 3, 1) := by decide +kernel
theorem dX5_firstOld_4 : decode cX5_firstOld 4 = .ok (.invokevirtual 150, 3) := by decide +kernel
theorem dX5_firstOld_7 : decode cX5_firstOld 7 = .ok (.istore 4, 2) := by decide +kernel
theorem dX5_firstOld_9 : decode cX5_firstOld 9 = .ok (.iload 4, 2) := by decide +kernel
theorem dX5_firstOld_11 : decode cX5_firstOld 11 = .ok (.ifCond .ge 7, 3) := by decide +kernel
theorem dX5_firstOld_14 : decode cX5_firstOld 14 = .ok (.iload_n 3, 1) := by decide +kernel
theorem dX5_firstOld_15 : decode cX5_firstOld 15 = .ok (.goto 5, 3) := by decide +kernel
theorem dX5_firstOld_18 : decode cX5_firstOld 18 = .ok (.iload 4, 2) := by decide +kernel
theorem dX5_firstOld_20 : decode cX5_firstOld 20 = .ok (.istore 5, 2) := by decide +kernel
theorem dX5_firstOld_22 : decode cX5_firstOld 22 = .ok (.aload_n 0, 1) := by decide +kernel
theorem dX5_firstOld_23 : decode cX5_firstOld 23 = .ok (.getfield 12, 3) := by decide +kernel
theorem dX5_firstOld_26 : decode cX5_firstOld 26 = .ok (.aload_n 1, 1) := by decide +kernel
theorem dX5_firstOld_27 : decode cX5_firstOld 27 = .ok (.getfield 32, 3) := by decide +kernel
theorem dX5_firstOld_30 : decode cX5_firstOld 30 = .ok (.iconst 3, 1) := by decide +kernel
theorem dX5_firstOld_31 : decode cX5_firstOld 31 = .ok (.iaload, 1) := by decide +kernel
theorem dX5_firstOld_32 : decode cX5_firstOld 32 = .ok (.invokevirtual 37, 3) := by decide +kernel
theorem dX5_firstOld_35 : decode cX5_firstOld 35 = .ok (.iconst 0, 1) := by decide +kernel
theorem dX5_firstOld_36 : decode cX5_firstOld 36 = .ok (.istore 6, 2) := by decide +kernel
theorem dX5_firstOld_38 : decode cX5_firstOld 38 = .ok (.iload 6, 2) := by decide +kernel
theorem dX5_firstOld_40 : decode cX5_firstOld 40 = .ok (.iload 5, 2) := by decide +kernel
theorem dX5_firstOld_42 : decode cX5_firstOld 42 = .ok (.if_icmp .ge 40, 3) := by decide +kernel
theorem dX5_firstOld_45 : decode cX5_firstOld 45 = .ok (.aload_n 0, 1) := by decide +kernel
theorem dX5_firstOld_46 : decode cX5_firstOld 46 = .ok (.getfield 12, 3) := by decide +kernel
theorem dX5_firstOld_49 : decode cX5_firstOld 49 = .ok (.aload_n 1, 1) := by decide +kernel
theorem dX5_firstOld_50 : decode cX5_firstOld 50 = .ok (.aload_n 2, 1) := by decide +kernel
theorem dX5_firstOld_51 : decode cX5_firstOld 51 = .ok (.iload 6, 2) := by decide +kernel
theorem dX5_firstOld_53 : decode cX5_firstOld 53 = .ok (.iaload, 1) := by decide +kernel
theorem dX5_firstOld_54 : decode cX5_firstOld 54 = .ok (.invokevirtual 56, 3) := by decide +kernel
theorem dX5_firstOld_57 : decode cX5_firstOld 57 = .ok (.aload_n 0, 1) := by decide +kernel
theorem dX5_firstOld_58 : decode cX5_firstOld 58 = .ok (.getfield 12, 3) := by decide +kernel
theorem dX5_firstOld_61 : decode cX5_firstOld 61 = .ok (.getfield 73, 3) := by decide +kernel
theorem dX5_firstOld_64 : decode cX5_firstOld 64 = .ok (.aload_n 1, 1) := by decide +kernel
theorem dX5_firstOld_65 : decode cX5_firstOld 65 = .ok (.getfield 32, 3) := by decide +kernel
theorem dX5_firstOld_68 : decode cX5_firstOld 68 = .ok (.iconst 1, 1) := by decide +kernel
theorem dX5_firstOld_69 : decode cX5_firstOld 69 = .ok (.iaload, 1) := by decide +kernel
theorem dX5_firstOld_70 : decode cX5_firstOld 70 = .ok (.if_icmp .lt 6, 3) := by decide +kernel
theorem dX5_firstOld_73 : decode cX5_firstOld 73 = .ok (.iload 6, 2) := by decide +kernel
theorem dX5_firstOld_75 : decode cX5_firstOld 75 = .ok (.ireturn, 1) := by decide +kernel
theorem dX5_firstOld_76 : decode cX5_firstOld 76 = .ok (.iinc 6 1, 3) := by decide +kernel
theorem dX5_firstOld_79 : decode cX5_firstOld 79 = .ok (.goto (-41), 3) := by decide +kernel
theorem dX5_firstOld_82 : decode cX5_firstOld 82 = .ok (.bipush (-9), 2) := by decide +kernel
theorem dX5_firstOld_84 : decode cX5_firstOld 84 = .ok (.ireturn, 1) := by decide +kernel
theorem dX6_init_0 : decode cX6_init 0 = .ok (.aload_n 0, 1) := by decide +kernel
theorem dX6_init_1 : decode cX6_init 1 = .ok (.iload_n 1, 1) := by decide +kernel
theorem dX6_init_2 : decode cX6_init 2 = .ok (.iload_n 2, 1) := by decide +kernel
theorem dX6_init_3 : decode cX6_init 3 = .ok (.iload_n 3, 1) := by decide +kernel
theorem dX6_init_4 : decode cX6_init 4 = .ok (.iload 4, 2) := by decide +kernel
theorem dX6_init_6 : decode cX6_init 6 = .ok (.iload 5, 2) := by decide +kernel
theorem dX6_init_8 : decode cX6_init 8 = .ok (.invokespecial 1, 3) := by decide +kernel
theorem dX6_init_11 : decode cX6_init 11 = .ok (.return_, 1) := by decide +kernel
theorem dX6_worthThen_0 : decode cX6_worthThen 0 = .ok (.iload_n 2, 1) := by decide +kernel
theorem dX6_worthThen_1 : decode cX6_worthThen 1 = .ok (.ifCond .ne 10, 3) := by decide +kernel
theorem dX6_worthThen_4 : decode cX6_worthThen 4 = .ok (.aload_n 0, 1) := by decide +kernel
theorem dX6_worthThen_5 : decode cX6_worthThen 5 = .ok (.getfield 7, 3) := by decide +kernel
theorem dX6_worthThen_8 : decode cX6_worthThen 8 = .ok (.goto 4, 3) := by decide +kernel
theorem dX6_worthThen_11 : decode cX6_worthThen 11 = .ok (.iconst 0, 1) := by decide +kernel
theorem dX6_worthThen_12 : decode cX6_worthThen 12 = .ok (.ireturn, 1) := by decide +kernel
theorem dX6_isOpen_0 : decode cX6_isOpen 0 = .ok (.aload_n 1, 1) := by decide +kernel
theorem dX6_isOpen_1 : decode cX6_isOpen 1 = .ok (.aload_n 0, 1) := by decide +kernel
theorem dX6_isOpen_2 : decode cX6_isOpen 2 = .ok (.getfield 13, 3) := by decide +kernel
theorem dX6_isOpen_5 : decode cX6_isOpen 5 = .ok (.iaload, 1) := by decide +kernel
theorem dX6_isOpen_6 : decode cX6_isOpen 6 = .ok (.ifCond .ne 7, 3) := by decide +kernel
theorem dX6_isOpen_9 : decode cX6_isOpen 9 = .ok (.iconst 1, 1) := by decide +kernel
theorem dX6_isOpen_10 : decode cX6_isOpen 10 = .ok (.goto 4, 3) := by decide +kernel
theorem dX6_isOpen_13 : decode cX6_isOpen 13 = .ok (.iconst 0, 1) := by decide +kernel
theorem dX6_isOpen_14 : decode cX6_isOpen 14 = .ok (.ireturn, 1) := by decide +kernel
theorem dX7_init_0 : decode cX7_init 0 = .ok (.aload_n 0, 1) := by decide +kernel
theorem dX7_init_1 : decode cX7_init 1 = .ok (.invokespecial 3, 3) := by decide +kernel
theorem dX7_init_4 : decode cX7_init 4 = .ok (.aload_n 0, 1) := by decide +kernel
theorem dX7_init_5 : decode cX7_init 5 = .ok (.iconst 0, 1) := by decide +kernel
theorem dX7_init_6 : decode cX7_init 6 = .ok (.newarray .int, 2) := by decide +kernel
theorem dX7_init_8 : decode cX7_init 8 = .ok (.putfield 9, 3) := by decide +kernel
theorem dX7_init_11 : decode cX7_init 11 = .ok (.aload_n 0, 1) := by decide +kernel
theorem dX7_init_12 : decode cX7_init 12 = .ok (.iconst 0, 1) := by decide +kernel
theorem dX7_init_13 : decode cX7_init 13 = .ok (.putfield 15, 3) := by decide +kernel
theorem dX7_init_16 : decode cX7_init 16 = .ok (.aload_n 0, 1) := by decide +kernel
theorem dX7_init_17 : decode cX7_init 17 = .ok (.iconst 0, 1) := by decide +kernel
theorem dX7_init_18 : decode cX7_init 18 = .ok (.putfield 19, 3) := by decide +kernel
theorem dX7_init_21 : decode cX7_init 21 = .ok (.aload_n 0, 1) := by decide +kernel
theorem dX7_init_22 : decode cX7_init 22 = .ok (.iconst (-1), 1) := by decide +kernel
theorem dX7_init_23 : decode cX7_init 23 = .ok (.putfield 22, 3) := by decide +kernel
theorem dX7_init_26 : decode cX7_init 26 = .ok (.aload_n 0, 1) := by decide +kernel
theorem dX7_init_27 : decode cX7_init 27 = .ok (.iconst 0, 1) := by decide +kernel
theorem dX7_init_28 : decode cX7_init 28 = .ok (.putfield 25, 3) := by decide +kernel
theorem dX7_init_31 : decode cX7_init 31 = .ok (.aload_n 0, 1) := by decide +kernel
theorem dX7_init_32 : decode cX7_init 32 = .ok (.iconst 0, 1) := by decide +kernel
theorem dX7_init_33 : decode cX7_init 33 = .ok (.putfield 28, 3) := by decide +kernel
theorem dX7_init_36 : decode cX7_init 36 = .ok (.aload_n 0, 1) := by decide +kernel
theorem dX7_init_37 : decode cX7_init 37 = .ok (.iconst 0, 1) := by decide +kernel
theorem dX7_init_38 : decode cX7_init 38 = .ok (.putfield 31, 3) := by decide +kernel
theorem dX7_init_41 : decode cX7_init 41 = .ok (.aload_n 0, 1) := by decide +kernel
theorem dX7_init_42 : decode cX7_init 42 = .ok (.iconst 0, 1) := by decide +kernel
theorem dX7_init_43 : decode cX7_init 43 = .ok (.putfield 34, 3) := by decide +kernel
theorem dX7_init_46 : decode cX7_init 46 = .ok (.return_, 1) := by decide +kernel
theorem dX7_read_0 : decode cX7_read 0 = .ok (.aload_n 0, 1) := by decide +kernel
theorem dX7_read_1 : decode cX7_read 1 = .ok (.aload_n 1, 1) := by decide +kernel
theorem dX7_read_2 : decode cX7_read 2 = .ok (.putfield 9, 3) := by decide +kernel
theorem dX7_read_5 : decode cX7_read 5 = .ok (.aload_n 0, 1) := by decide +kernel
theorem dX7_read_6 : decode cX7_read 6 = .ok (.iload_n 2, 1) := by decide +kernel
theorem dX7_read_7 : decode cX7_read 7 = .ok (.aload_n 1, 1) := by decide +kernel
theorem dX7_read_8 : decode cX7_read 8 = .ok (.arraylength, 1) := by decide +kernel
theorem dX7_read_9 : decode cX7_read 9 = .ok (.invokestatic 37, 3) := by decide +kernel
theorem dX7_read_12 : decode cX7_read 12 = .ok (.putfield 15, 3) := by decide +kernel
theorem dX7_read_15 : decode cX7_read 15 = .ok (.aload_n 0, 1) := by decide +kernel
theorem dX7_read_16 : decode cX7_read 16 = .ok (.iconst 0, 1) := by decide +kernel
theorem dX7_read_17 : decode cX7_read 17 = .ok (.putfield 19, 3) := by decide +kernel
theorem dX7_read_20 : decode cX7_read 20 = .ok (.aload_n 0, 1) := by decide +kernel
theorem dX7_read_21 : decode cX7_read 21 = .ok (.iconst (-1), 1) := by decide +kernel
theorem dX7_read_22 : decode cX7_read 22 = .ok (.putfield 22, 3) := by decide +kernel
theorem dX7_read_25 : decode cX7_read 25 = .ok (.iconst (-1), 1) := by decide +kernel
theorem dX7_read_26 : decode cX7_read 26 = .ok (.istore 4, 2) := by decide +kernel
theorem dX7_read_28 : decode cX7_read 28 = .ok (.iconst 0, 1) := by decide +kernel
theorem dX7_read_29 : decode cX7_read 29 = .ok (.istore 5, 2) := by decide +kernel
theorem dX7_read_31 : decode cX7_read 31 = .ok (.iconst 0, 1) := by decide +kernel
theorem dX7_read_32 : decode cX7_read 32 = .ok (.istore 6, 2) := by decide +kernel
theorem dX7_read_34 : decode cX7_read 34 = .ok (.iload 6, 2) := by decide +kernel
theorem dX7_read_36 : decode cX7_read 36 = .ok (.bipush 21, 2) := by decide +kernel
theorem dX7_read_38 : decode cX7_read 38 = .ok (.if_icmp .gt 140, 3) := by decide +kernel
theorem dX7_read_41 : decode cX7_read 41 = .ok (.iload 6, 2) := by decide +kernel
theorem dX7_read_43 : decode cX7_read 43 = .ok (.ifCond .eq 14, 3) := by decide +kernel
theorem dX7_read_46 : decode cX7_read 46 = .ok (.aload_n 0, 1) := by decide +kernel
theorem dX7_read_47 : decode cX7_read 47 = .ok (.getfield 19, 3) := by decide +kernel
theorem dX7_read_50 : decode cX7_read 50 = .ok (.aload_n 0, 1) := by decide +kernel
theorem dX7_read_51 : decode cX7_read 51 = .ok (.getfield 15, 3) := by decide +kernel
theorem dX7_read_54 : decode cX7_read 54 = .ok (.if_icmp .ge 124, 3) := by decide +kernel
theorem dX7_read_57 : decode cX7_read 57 = .ok (.aload_n 0, 1) := by decide +kernel
theorem dX7_read_58 : decode cX7_read 58 = .ok (.getfield 19, 3) := by decide +kernel
theorem dX7_read_61 : decode cX7_read 61 = .ok (.istore 7, 2) := by decide +kernel
theorem dX7_read_63 : decode cX7_read 63 = .ok (.aload_n 0, 1) := by decide +kernel
theorem dX7_read_64 : decode cX7_read 64 = .ok (.invokevirtual 43, 3) := by decide +kernel
theorem dX7_read_67 : decode cX7_read 67 = .ok (.istore 8, 2) := by decide +kernel
theorem dX7_read_69 : decode cX7_read 69 = .ok (.aload_n 0, 1) := by decide +kernel
theorem dX7_read_70 : decode cX7_read 70 = .ok (.getfield 22, 3) := by decide +kernel
theorem dX7_read_73 : decode cX7_read 73 = .ok (.ifCond .lt 12, 3) := by decide +kernel
theorem dX7_read_76 : decode cX7_read 76 = .ok (.sipush (-1000), 3) := by decide +kernel
theorem dX7_read_79 : decode cX7_read 79 = .ok (.aload_n 0, 1) := by decide +kernel
theorem dX7_read_80 : decode cX7_read 80 = .ok (.getfield 22, 3) := by decide +kernel
theorem dX7_read_83 : decode cX7_read 83 = .ok (.isub, 1) := by decide +kernel
theorem dX7_read_84 : decode cX7_read 84 = .ok (.ireturn, 1) := by decide +kernel
theorem dX7_read_85 : decode cX7_read 85 = .ok (.iload 8, 2) := by decide +kernel
theorem dX7_read_87 : decode cX7_read 87 = .ok (.bipush 116, 2) := by decide +kernel
theorem dX7_read_89 : decode cX7_read 89 = .ok (.if_icmp .ne 28, 3) := by decide +kernel
theorem dX7_read_92 : decode cX7_read 92 = .ok (.aload_n 3, 1) := by decide +kernel
theorem dX7_read_93 : decode cX7_read 93 = .ok (.aload_n 0, 1) := by decide +kernel
theorem dX7_read_94 : decode cX7_read 94 = .ok (.getfield 25, 3) := by decide +kernel
theorem dX7_read_97 : decode cX7_read 97 = .ok (.aload_n 0, 1) := by decide +kernel
theorem dX7_read_98 : decode cX7_read 98 = .ok (.getfield 28, 3) := by decide +kernel
theorem dX7_read_101 : decode cX7_read 101 = .ok (.aload_n 0, 1) := by decide +kernel
theorem dX7_read_102 : decode cX7_read 102 = .ok (.getfield 31, 3) := by decide +kernel
theorem dX7_read_105 : decode cX7_read 105 = .ok (.aload_n 0, 1) := by decide +kernel
theorem dX7_read_106 : decode cX7_read 106 = .ok (.getfield 34, 3) := by decide +kernel
theorem dX7_read_109 : decode cX7_read 109 = .ok (.invokevirtual 47, 3) := by decide +kernel
theorem dX7_read_112 : decode cX7_read 112 = .ok (.istore 9, 2) := by decide +kernel
theorem dX7_read_114 : decode cX7_read 114 = .ok (.goto 41, 3) := by decide +kernel
theorem dX7_read_117 : decode cX7_read 117 = .ok (.iload 8, 2) := by decide +kernel
theorem dX7_read_119 : decode cX7_read 119 = .ok (.bipush 119, 2) := by decide +kernel
theorem dX7_read_121 : decode cX7_read 121 = .ok (.if_icmp .ne 24, 3) := by decide +kernel
theorem dX7_read_124 : decode cX7_read 124 = .ok (.aload_n 3, 1) := by decide +kernel
theorem dX7_read_125 : decode cX7_read 125 = .ok (.aload_n 0, 1) := by decide +kernel
theorem dX7_read_126 : decode cX7_read 126 = .ok (.getfield 28, 3) := by decide +kernel
theorem dX7_read_129 : decode cX7_read 129 = .ok (.aload_n 0, 1) := by decide +kernel
theorem dX7_read_130 : decode cX7_read 130 = .ok (.getfield 31, 3) := by decide +kernel
theorem dX7_read_133 : decode cX7_read 133 = .ok (.aload_n 0, 1) := by decide +kernel
theorem dX7_read_134 : decode cX7_read 134 = .ok (.getfield 34, 3) := by decide +kernel
theorem dX7_read_137 : decode cX7_read 137 = .ok (.invokevirtual 53, 3) := by decide +kernel
theorem dX7_read_140 : decode cX7_read 140 = .ok (.istore 9, 2) := by decide +kernel
theorem dX7_read_142 : decode cX7_read 142 = .ok (.goto 13, 3) := by decide +kernel
theorem dX7_read_145 : decode cX7_read 145 = .ok (.aload_n 3, 1) := by decide +kernel
theorem dX7_read_146 : decode cX7_read 146 = .ok (.aload_n 0, 1) := by decide +kernel
theorem dX7_read_147 : decode cX7_read 147 = .ok (.getfield 28, 3) := by decide +kernel
theorem dX7_read_150 : decode cX7_read 150 = .ok (.invokevirtual 57, 3) := by decide +kernel
theorem dX7_read_153 : decode cX7_read 153 = .ok (.istore 9, 2) := by decide +kernel
theorem dX7_read_155 : decode cX7_read 155 = .ok (.iload 4, 2) := by decide +kernel
theorem dX7_read_157 : decode cX7_read 157 = .ok (.ifCond .ge 12, 3) := by decide +kernel
theorem dX7_read_160 : decode cX7_read 160 = .ok (.iload 9, 2) := by decide +kernel
theorem dX7_read_162 : decode cX7_read 162 = .ok (.ifCond .ne 7, 3) := by decide +kernel
theorem dX7_read_165 : decode cX7_read 165 = .ok (.iload 7, 2) := by decide +kernel
theorem dX7_read_167 : decode cX7_read 167 = .ok (.istore 4, 2) := by decide +kernel
theorem dX7_read_169 : decode cX7_read 169 = .ok (.iinc 5 1, 3) := by decide +kernel
theorem dX7_read_172 : decode cX7_read 172 = .ok (.iinc 6 1, 3) := by decide +kernel
theorem dX7_read_175 : decode cX7_read 175 = .ok (.goto (-141), 3) := by decide +kernel
theorem dX7_read_178 : decode cX7_read 178 = .ok (.iload 4, 2) := by decide +kernel
theorem dX7_read_180 : decode cX7_read 180 = .ok (.ifCond .ge 8, 3) := by decide +kernel
theorem dX7_read_183 : decode cX7_read 183 = .ok (.iload 5, 2) := by decide +kernel
theorem dX7_read_185 : decode cX7_read 185 = .ok (.goto 9, 3) := by decide +kernel
theorem dX7_read_188 : decode cX7_read 188 = .ok (.sipush (-2000), 3) := by decide +kernel
theorem dX7_read_191 : decode cX7_read 191 = .ok (.iload 4, 2) := by decide +kernel
theorem dX7_read_193 : decode cX7_read 193 = .ok (.isub, 1) := by decide +kernel
theorem dX7_read_194 : decode cX7_read 194 = .ok (.ireturn, 1) := by decide +kernel
theorem dX7_readStatement_0 : decode cX7_readStatement 0 = .ok (.aload_n 0, 1) := by decide +kernel
theorem dX7_readStatement_1 : decode cX7_readStatement 1 = .ok (.getfield 19, 3) := by decide +kernel
theorem dX7_readStatement_4 : decode cX7_readStatement 4 = .ok (.aload_n 0, 1) := by decide +kernel
theorem dX7_readStatement_5 : decode cX7_readStatement 5 = .ok (.getfield 15, 3) := by decide +kernel
theorem dX7_readStatement_8 : decode cX7_readStatement 8 = .ok (.if_icmp .ge 15, 3) := by decide +kernel
theorem dX7_readStatement_11 : decode cX7_readStatement 11 = .ok (.aload_n 0, 1) := by decide +kernel
theorem dX7_readStatement_12 : decode cX7_readStatement 12 = .ok (.getfield 9, 3) := by decide +kernel
theorem dX7_readStatement_15 : decode cX7_readStatement 15 = .ok (.aload_n 0, 1) := by decide +kernel
theorem dX7_readStatement_16 : decode cX7_readStatement 16 = .ok (.getfield 19, 3) := by decide +kernel
theorem dX7_readStatement_19 : decode cX7_readStatement 19 = .ok (.iaload, 1) := by decide +kernel
theorem dX7_readStatement_20 : decode cX7_readStatement 20 = .ok (.goto 4, 3) := by decide +kernel
theorem dX7_readStatement_23 : decode cX7_readStatement 23 = .ok (.iconst 0, 1) := by decide +kernel
theorem dX7_readStatement_24 : decode cX7_readStatement 24 = .ok (.istore_n 1, 1) := by decide +kernel
theorem dX7_readStatement_25 : decode cX7_readStatement 25 = .ok (.iload_n 1, 1) := by decide +kernel
theorem dX7_readStatement_26 : decode cX7_readStatement 26 = .ok (.lookupswitch 152 #[(110, 34), (116, 99), (119, 55)], 34) := by decide +kernel
theorem dX7_readStatement_60 : decode cX7_readStatement 60 = .ok (.aload_n 0, 1) := by decide +kernel
theorem dX7_readStatement_61 : decode cX7_readStatement 61 = .ok (.dup, 1) := by decide +kernel
theorem dX7_readStatement_62 : decode cX7_readStatement 62 = .ok (.getfield 19, 3) := by decide +kernel
theorem dX7_readStatement_65 : decode cX7_readStatement 65 = .ok (.iconst 1, 1) := by decide +kernel
theorem dX7_readStatement_66 : decode cX7_readStatement 66 = .ok (.iadd, 1) := by decide +kernel
theorem dX7_readStatement_67 : decode cX7_readStatement 67 = .ok (.putfield 19, 3) := by decide +kernel
theorem dX7_readStatement_70 : decode cX7_readStatement 70 = .ok (.aload_n 0, 1) := by decide +kernel
theorem dX7_readStatement_71 : decode cX7_readStatement 71 = .ok (.aload_n 0, 1) := by decide +kernel
theorem dX7_readStatement_72 : decode cX7_readStatement 72 = .ok (.invokevirtual 61, 3) := by decide +kernel
theorem dX7_readStatement_75 : decode cX7_readStatement 75 = .ok (.putfield 28, 3) := by decide +kernel
theorem dX7_readStatement_78 : decode cX7_readStatement 78 = .ok (.goto 104, 3) := by decide +kernel
theorem dX7_readStatement_81 : decode cX7_readStatement 81 = .ok (.aload_n 0, 1) := by decide +kernel
theorem dX7_readStatement_82 : decode cX7_readStatement 82 = .ok (.dup, 1) := by decide +kernel
theorem dX7_readStatement_83 : decode cX7_readStatement 83 = .ok (.getfield 19, 3) := by decide +kernel
theorem dX7_readStatement_86 : decode cX7_readStatement 86 = .ok (.iconst 1, 1) := by decide +kernel
theorem dX7_readStatement_87 : decode cX7_readStatement 87 = .ok (.iadd, 1) := by decide +kernel
theorem dX7_readStatement_88 : decode cX7_readStatement 88 = .ok (.putfield 19, 3) := by decide +kernel
theorem dX7_readStatement_91 : decode cX7_readStatement 91 = .ok (.aload_n 0, 1) := by decide +kernel
theorem dX7_readStatement_92 : decode cX7_readStatement 92 = .ok (.aload_n 0, 1) := by decide +kernel
theorem dX7_readStatement_93 : decode cX7_readStatement 93 = .ok (.invokevirtual 61, 3) := by decide +kernel
theorem dX7_readStatement_96 : decode cX7_readStatement 96 = .ok (.putfield 28, 3) := by decide +kernel
theorem dX7_readStatement_99 : decode cX7_readStatement 99 = .ok (.aload_n 0, 1) := by decide +kernel
theorem dX7_readStatement_100 : decode cX7_readStatement 100 = .ok (.aload_n 0, 1) := by decide +kernel
theorem dX7_readStatement_101 : decode cX7_readStatement 101 = .ok (.invokevirtual 61, 3) := by decide +kernel
theorem dX7_readStatement_104 : decode cX7_readStatement 104 = .ok (.putfield 31, 3) := by decide +kernel
theorem dX7_readStatement_107 : decode cX7_readStatement 107 = .ok (.aload_n 0, 1) := by decide +kernel
theorem dX7_readStatement_108 : decode cX7_readStatement 108 = .ok (.bipush 44, 2) := by decide +kernel
theorem dX7_readStatement_110 : decode cX7_readStatement 110 = .ok (.invokevirtual 64, 3) := by decide +kernel
theorem dX7_readStatement_113 : decode cX7_readStatement 113 = .ok (.aload_n 0, 1) := by decide +kernel
theorem dX7_readStatement_114 : decode cX7_readStatement 114 = .ok (.aload_n 0, 1) := by decide +kernel
theorem dX7_readStatement_115 : decode cX7_readStatement 115 = .ok (.iconst 3, 1) := by decide +kernel
theorem dX7_readStatement_116 : decode cX7_readStatement 116 = .ok (.invokevirtual 68, 3) := by decide +kernel
theorem dX7_readStatement_119 : decode cX7_readStatement 119 = .ok (.putfield 34, 3) := by decide +kernel
theorem dX7_readStatement_122 : decode cX7_readStatement 122 = .ok (.goto 60, 3) := by decide +kernel
theorem dX7_readStatement_125 : decode cX7_readStatement 125 = .ok (.aload_n 0, 1) := by decide +kernel
theorem dX7_readStatement_126 : decode cX7_readStatement 126 = .ok (.dup, 1) := by decide +kernel
theorem dX7_readStatement_127 : decode cX7_readStatement 127 = .ok (.getfield 19, 3) := by decide +kernel
theorem dX7_readStatement_130 : decode cX7_readStatement 130 = .ok (.iconst 1, 1) := by decide +kernel
theorem dX7_readStatement_131 : decode cX7_readStatement 131 = .ok (.iadd, 1) := by decide +kernel
theorem dX7_readStatement_132 : decode cX7_readStatement 132 = .ok (.putfield 19, 3) := by decide +kernel
theorem dX7_readStatement_135 : decode cX7_readStatement 135 = .ok (.aload_n 0, 1) := by decide +kernel
theorem dX7_readStatement_136 : decode cX7_readStatement 136 = .ok (.aload_n 0, 1) := by decide +kernel
theorem dX7_readStatement_137 : decode cX7_readStatement 137 = .ok (.invokevirtual 72, 3) := by decide +kernel
theorem dX7_readStatement_140 : decode cX7_readStatement 140 = .ok (.putfield 25, 3) := by decide +kernel
theorem dX7_readStatement_143 : decode cX7_readStatement 143 = .ok (.aload_n 0, 1) := by decide +kernel
theorem dX7_readStatement_144 : decode cX7_readStatement 144 = .ok (.aload_n 0, 1) := by decide +kernel
theorem dX7_readStatement_145 : decode cX7_readStatement 145 = .ok (.invokevirtual 61, 3) := by decide +kernel
theorem dX7_readStatement_148 : decode cX7_readStatement 148 = .ok (.putfield 28, 3) := by decide +kernel
theorem dX7_readStatement_151 : decode cX7_readStatement 151 = .ok (.aload_n 0, 1) := by decide +kernel
theorem dX7_readStatement_152 : decode cX7_readStatement 152 = .ok (.aload_n 0, 1) := by decide +kernel
theorem dX7_readStatement_153 : decode cX7_readStatement 153 = .ok (.iconst 2, 1) := by decide +kernel
theorem dX7_readStatement_154 : decode cX7_readStatement 154 = .ok (.invokevirtual 68, 3) := by decide +kernel
theorem dX7_readStatement_157 : decode cX7_readStatement 157 = .ok (.putfield 31, 3) := by decide +kernel
theorem dX7_readStatement_160 : decode cX7_readStatement 160 = .ok (.aload_n 0, 1) := by decide +kernel
theorem dX7_readStatement_161 : decode cX7_readStatement 161 = .ok (.bipush 44, 2) := by decide +kernel
theorem dX7_readStatement_163 : decode cX7_readStatement 163 = .ok (.invokevirtual 64, 3) := by decide +kernel
theorem dX7_readStatement_166 : decode cX7_readStatement 166 = .ok (.aload_n 0, 1) := by decide +kernel
theorem dX7_readStatement_167 : decode cX7_readStatement 167 = .ok (.aload_n 0, 1) := by decide +kernel
theorem dX7_readStatement_168 : decode cX7_readStatement 168 = .ok (.iconst 3, 1) := by decide +kernel
theorem dX7_readStatement_169 : decode cX7_readStatement 169 = .ok (.invokevirtual 68, 3) := by decide +kernel
theorem dX7_readStatement_172 : decode cX7_readStatement 172 = .ok (.putfield 34, 3) := by decide +kernel
theorem dX7_readStatement_175 : decode cX7_readStatement 175 = .ok (.goto 7, 3) := by decide +kernel
theorem dX7_readStatement_178 : decode cX7_readStatement 178 = .ok (.aload_n 0, 1) := by decide +kernel
theorem dX7_readStatement_179 : decode cX7_readStatement 179 = .ok (.invokevirtual 75, 3) := by decide +kernel
theorem dX7_readStatement_182 : decode cX7_readStatement 182 = .ok (.aload_n 0, 1) := by decide +kernel
theorem dX7_readStatement_183 : decode cX7_readStatement 183 = .ok (.bipush 59, 2) := by decide +kernel
theorem dX7_readStatement_185 : decode cX7_readStatement 185 = .ok (.invokevirtual 64, 3) := by decide +kernel
theorem dX7_readStatement_188 : decode cX7_readStatement 188 = .ok (.iload_n 1, 1) := by decide +kernel
theorem dX7_readStatement_189 : decode cX7_readStatement 189 = .ok (.ireturn, 1) := by decide +kernel
theorem dX7_readSign_0 : decode cX7_readSign 0 = .ok (.aload_n 0, 1) := by decide +kernel
theorem dX7_readSign_1 : decode cX7_readSign 1 = .ok (.getfield 22, 3) := by decide +kernel
theorem dX7_readSign_4 : decode cX7_readSign 4 = .ok (.ifCond .ge 40, 3) := by decide +kernel
theorem dX7_readSign_7 : decode cX7_readSign 7 = .ok (.aload_n 0, 1) := by decide +kernel
theorem dX7_readSign_8 : decode cX7_readSign 8 = .ok (.getfield 19, 3) := by decide +kernel
theorem dX7_readSign_11 : decode cX7_readSign 11 = .ok (.aload_n 0, 1) := by decide +kernel
theorem dX7_readSign_12 : decode cX7_readSign 12 = .ok (.getfield 15, 3) := by decide +kernel
theorem dX7_readSign_15 : decode cX7_readSign 15 = .ok (.if_icmp .ge 29, 3) := by decide +kernel
theorem dX7_readSign_18 : decode cX7_readSign 18 = .ok (.aload_n 0, 1) := by decide +kernel
theorem dX7_readSign_19 : decode cX7_readSign 19 = .ok (.getfield 9, 3) := by decide +kernel
theorem dX7_readSign_22 : decode cX7_readSign 22 = .ok (.aload_n 0, 1) := by decide +kernel
theorem dX7_readSign_23 : decode cX7_readSign 23 = .ok (.getfield 19, 3) := by decide +kernel
theorem dX7_readSign_26 : decode cX7_readSign 26 = .ok (.iaload, 1) := by decide +kernel
theorem dX7_readSign_27 : decode cX7_readSign 27 = .ok (.iload_n 1, 1) := by decide +kernel
theorem dX7_readSign_28 : decode cX7_readSign 28 = .ok (.if_icmp .ne 16, 3) := by decide +kernel
theorem dX7_readSign_31 : decode cX7_readSign 31 = .ok (.aload_n 0, 1) := by decide +kernel
theorem dX7_readSign_32 : decode cX7_readSign 32 = .ok (.dup, 1) := by decide +kernel
theorem dX7_readSign_33 : decode cX7_readSign 33 = .ok (.getfield 19, 3) := by decide +kernel
theorem dX7_readSign_36 : decode cX7_readSign 36 = .ok (.iconst 1, 1) := by decide +kernel
theorem dX7_readSign_37 : decode cX7_readSign 37 = .ok (.iadd, 1) := by decide +kernel
theorem dX7_readSign_38 : decode cX7_readSign 38 = .ok (.putfield 19, 3) := by decide +kernel
theorem dX7_readSign_41 : decode cX7_readSign 41 = .ok (.goto 7, 3) := by decide +kernel
theorem dX7_readSign_44 : decode cX7_readSign 44 = .ok (.aload_n 0, 1) := by decide +kernel
theorem dX7_readSign_45 : decode cX7_readSign 45 = .ok (.invokevirtual 75, 3) := by decide +kernel
theorem dX7_readSign_48 : decode cX7_readSign 48 = .ok (.return_, 1) := by decide +kernel
theorem dX7_readKind_0 : decode cX7_readKind 0 = .ok (.aload_n 0, 1) := by decide +kernel
theorem dX7_readKind_1 : decode cX7_readKind 1 = .ok (.getfield 19, 3) := by decide +kernel
theorem dX7_readKind_4 : decode cX7_readKind 4 = .ok (.aload_n 0, 1) := by decide +kernel
theorem dX7_readKind_5 : decode cX7_readKind 5 = .ok (.getfield 15, 3) := by decide +kernel
theorem dX7_readKind_8 : decode cX7_readKind 8 = .ok (.if_icmp .ge 21, 3) := by decide +kernel
theorem dX7_readKind_11 : decode cX7_readKind 11 = .ok (.ldc 78, 2) := by decide +kernel
theorem dX7_readKind_13 : decode cX7_readKind 13 = .ok (.aload_n 0, 1) := by decide +kernel
theorem dX7_readKind_14 : decode cX7_readKind 14 = .ok (.getfield 9, 3) := by decide +kernel
theorem dX7_readKind_17 : decode cX7_readKind 17 = .ok (.aload_n 0, 1) := by decide +kernel
theorem dX7_readKind_18 : decode cX7_readKind 18 = .ok (.getfield 19, 3) := by decide +kernel
theorem dX7_readKind_21 : decode cX7_readKind 21 = .ok (.iaload, 1) := by decide +kernel
theorem dX7_readKind_22 : decode cX7_readKind 22 = .ok (.i2c, 1) := by decide +kernel
theorem dX7_readKind_23 : decode cX7_readKind 23 = .ok (.invokevirtual 80, 3) := by decide +kernel
theorem dX7_readKind_26 : decode cX7_readKind 26 = .ok (.goto 4, 3) := by decide +kernel
theorem dX7_readKind_29 : decode cX7_readKind 29 = .ok (.iconst (-1), 1) := by decide +kernel
theorem dX7_readKind_30 : decode cX7_readKind 30 = .ok (.istore_n 1, 1) := by decide +kernel
theorem dX7_readKind_31 : decode cX7_readKind 31 = .ok (.iload_n 1, 1) := by decide +kernel
theorem dX7_readKind_32 : decode cX7_readKind 32 = .ok (.ifCond .ge 9, 3) := by decide +kernel
theorem dX7_readKind_35 : decode cX7_readKind 35 = .ok (.aload_n 0, 1) := by decide +kernel
theorem dX7_readKind_36 : decode cX7_readKind 36 = .ok (.invokevirtual 75, 3) := by decide +kernel
theorem dX7_readKind_39 : decode cX7_readKind 39 = .ok (.iconst 0, 1) := by decide +kernel
theorem dX7_readKind_40 : decode cX7_readKind 40 = .ok (.ireturn, 1) := by decide +kernel
theorem dX7_readKind_41 : decode cX7_readKind 41 = .ok (.aload_n 0, 1) := by decide +kernel
theorem dX7_readKind_42 : decode cX7_readKind 42 = .ok (.dup, 1) := by decide +kernel
theorem dX7_readKind_43 : decode cX7_readKind 43 = .ok (.getfield 19, 3) := by decide +kernel
theorem dX7_readKind_46 : decode cX7_readKind 46 = .ok (.iconst 1, 1) := by decide +kernel
theorem dX7_readKind_47 : decode cX7_readKind 47 = .ok (.iadd, 1) := by decide +kernel
theorem dX7_readKind_48 : decode cX7_readKind 48 = .ok (.putfield 19, 3) := by decide +kernel
theorem dX7_readKind_51 : decode cX7_readKind 51 = .ok (.iload_n 1, 1) := by decide +kernel
theorem dX7_readKind_52 : decode cX7_readKind 52 = .ok (.ireturn, 1) := by decide +kernel
theorem dX7_readNumber_0 : decode cX7_readNumber 0 = .ok (.aload_n 0, 1) := by decide +kernel
theorem dX7_readNumber_1 : decode cX7_readNumber 1 = .ok (.invokevirtual 61, 3) := by decide +kernel
theorem dX7_readNumber_4 : decode cX7_readNumber 4 = .ok (.istore_n 2, 1) := by decide +kernel
theorem dX7_readNumber_5 : decode cX7_readNumber 5 = .ok (.iconst 1, 1) := by decide +kernel
theorem dX7_readNumber_6 : decode cX7_readNumber 6 = .ok (.istore_n 3, 1) := by decide +kernel
theorem dX7_readNumber_7 : decode cX7_readNumber 7 = .ok (.iload_n 3, 1) := by decide +kernel
theorem dX7_readNumber_8 : decode cX7_readNumber 8 = .ok (.iload_n 1, 1) := by decide +kernel
theorem dX7_readNumber_9 : decode cX7_readNumber 9 = .ok (.if_icmp .ge 26, 3) := by decide +kernel
theorem dX7_readNumber_12 : decode cX7_readNumber 12 = .ok (.aload_n 0, 1) := by decide +kernel
theorem dX7_readNumber_13 : decode cX7_readNumber 13 = .ok (.invokevirtual 85, 3) := by decide +kernel
theorem dX7_readNumber_16 : decode cX7_readNumber 16 = .ok (.ifCond .eq 19, 3) := by decide +kernel
theorem dX7_readNumber_19 : decode cX7_readNumber 19 = .ok (.iload_n 2, 1) := by decide +kernel
theorem dX7_readNumber_20 : decode cX7_readNumber 20 = .ok (.bipush 10, 2) := by decide +kernel
theorem dX7_readNumber_22 : decode cX7_readNumber 22 = .ok (.imul, 1) := by decide +kernel
theorem dX7_readNumber_23 : decode cX7_readNumber 23 = .ok (.aload_n 0, 1) := by decide +kernel
theorem dX7_readNumber_24 : decode cX7_readNumber 24 = .ok (.invokevirtual 61, 3) := by decide +kernel
theorem dX7_readNumber_27 : decode cX7_readNumber 27 = .ok (.iadd, 1) := by decide +kernel
theorem dX7_readNumber_28 : decode cX7_readNumber 28 = .ok (.istore_n 2, 1) := by decide +kernel
theorem dX7_readNumber_29 : decode cX7_readNumber 29 = .ok (.iinc 3 1, 3) := by decide +kernel
theorem dX7_readNumber_32 : decode cX7_readNumber 32 = .ok (.goto (-25), 3) := by decide +kernel
theorem dX7_readNumber_35 : decode cX7_readNumber 35 = .ok (.iload_n 2, 1) := by decide +kernel
theorem dX7_readNumber_36 : decode cX7_readNumber 36 = .ok (.ireturn, 1) := by decide +kernel
theorem dX7_readDigit_0 : decode cX7_readDigit 0 = .ok (.aload_n 0, 1) := by decide +kernel
theorem dX7_readDigit_1 : decode cX7_readDigit 1 = .ok (.invokevirtual 85, 3) := by decide +kernel
theorem dX7_readDigit_4 : decode cX7_readDigit 4 = .ok (.ifCond .ne 9, 3) := by decide +kernel
theorem dX7_readDigit_7 : decode cX7_readDigit 7 = .ok (.aload_n 0, 1) := by decide +kernel
theorem dX7_readDigit_8 : decode cX7_readDigit 8 = .ok (.invokevirtual 75, 3) := by decide +kernel
theorem dX7_readDigit_11 : decode cX7_readDigit 11 = .ok (.iconst 0, 1) := by decide +kernel
theorem dX7_readDigit_12 : decode cX7_readDigit 12 = .ok (.ireturn, 1) := by decide +kernel
theorem dX7_readDigit_13 : decode cX7_readDigit 13 = .ok (.aload_n 0, 1) := by decide +kernel
theorem dX7_readDigit_14 : decode cX7_readDigit 14 = .ok (.dup, 1) := by decide +kernel
theorem dX7_readDigit_15 : decode cX7_readDigit 15 = .ok (.getfield 19, 3) := by decide +kernel
theorem dX7_readDigit_18 : decode cX7_readDigit 18 = .ok (.iconst 1, 1) := by decide +kernel
theorem dX7_readDigit_19 : decode cX7_readDigit 19 = .ok (.iadd, 1) := by decide +kernel
theorem dX7_readDigit_20 : decode cX7_readDigit 20 = .ok (.putfield 19, 3) := by decide +kernel
theorem dX7_readDigit_23 : decode cX7_readDigit 23 = .ok (.aload_n 0, 1) := by decide +kernel
theorem dX7_readDigit_24 : decode cX7_readDigit 24 = .ok (.getfield 9, 3) := by decide +kernel
theorem dX7_readDigit_27 : decode cX7_readDigit 27 = .ok (.aload_n 0, 1) := by decide +kernel
theorem dX7_readDigit_28 : decode cX7_readDigit 28 = .ok (.getfield 19, 3) := by decide +kernel
theorem dX7_readDigit_31 : decode cX7_readDigit 31 = .ok (.iconst 1, 1) := by decide +kernel
theorem dX7_readDigit_32 : decode cX7_readDigit 32 = .ok (.isub, 1) := by decide +kernel
theorem dX7_readDigit_33 : decode cX7_readDigit 33 = .ok (.iaload, 1) := by decide +kernel
theorem dX7_readDigit_34 : decode cX7_readDigit 34 = .ok (.bipush 48, 2) := by decide +kernel
theorem dX7_readDigit_36 : decode cX7_readDigit 36 = .ok (.isub, 1) := by decide +kernel
theorem dX7_readDigit_37 : decode cX7_readDigit 37 = .ok (.ireturn, 1) := by decide +kernel
theorem dX7_isDigitNext_0 : decode cX7_isDigitNext 0 = .ok (.aload_n 0, 1) := by decide +kernel
theorem dX7_isDigitNext_1 : decode cX7_isDigitNext 1 = .ok (.getfield 22, 3) := by decide +kernel
theorem dX7_isDigitNext_4 : decode cX7_isDigitNext 4 = .ok (.ifCond .ge 46, 3) := by decide +kernel
theorem dX7_isDigitNext_7 : decode cX7_isDigitNext 7 = .ok (.aload_n 0, 1) := by decide +kernel
theorem dX7_isDigitNext_8 : decode cX7_isDigitNext 8 = .ok (.getfield 19, 3) := by decide +kernel
theorem dX7_isDigitNext_11 : decode cX7_isDigitNext 11 = .ok (.aload_n 0, 1) := by decide +kernel
theorem dX7_isDigitNext_12 : decode cX7_isDigitNext 12 = .ok (.getfield 15, 3) := by decide +kernel
theorem dX7_isDigitNext_15 : decode cX7_isDigitNext 15 = .ok (.if_icmp .ge 35, 3) := by decide +kernel
theorem dX7_isDigitNext_18 : decode cX7_isDigitNext 18 = .ok (.aload_n 0, 1) := by decide +kernel
theorem dX7_isDigitNext_19 : decode cX7_isDigitNext 19 = .ok (.getfield 9, 3) := by decide +kernel
theorem dX7_isDigitNext_22 : decode cX7_isDigitNext 22 = .ok (.aload_n 0, 1) := by decide +kernel
theorem dX7_isDigitNext_23 : decode cX7_isDigitNext 23 = .ok (.getfield 19, 3) := by decide +kernel
theorem dX7_isDigitNext_26 : decode cX7_isDigitNext 26 = .ok (.iaload, 1) := by decide +kernel
theorem dX7_isDigitNext_27 : decode cX7_isDigitNext 27 = .ok (.bipush 48, 2) := by decide +kernel
theorem dX7_isDigitNext_29 : decode cX7_isDigitNext 29 = .ok (.if_icmp .lt 21, 3) := by decide +kernel
theorem dX7_isDigitNext_32 : decode cX7_isDigitNext 32 = .ok (.aload_n 0, 1) := by decide +kernel
theorem dX7_isDigitNext_33 : decode cX7_isDigitNext 33 = .ok (.getfield 9, 3) := by decide +kernel
theorem dX7_isDigitNext_36 : decode cX7_isDigitNext 36 = .ok (.aload_n 0, 1) := by decide +kernel
theorem dX7_isDigitNext_37 : decode cX7_isDigitNext 37 = .ok (.getfield 19, 3) := by decide +kernel
theorem dX7_isDigitNext_40 : decode cX7_isDigitNext 40 = .ok (.iaload, 1) := by decide +kernel
theorem dX7_isDigitNext_41 : decode cX7_isDigitNext 41 = .ok (.bipush 57, 2) := by decide +kernel
theorem dX7_isDigitNext_43 : decode cX7_isDigitNext 43 = .ok (.if_icmp .gt 7, 3) := by decide +kernel
theorem dX7_isDigitNext_46 : decode cX7_isDigitNext 46 = .ok (.iconst 1, 1) := by decide +kernel
theorem dX7_isDigitNext_47 : decode cX7_isDigitNext 47 = .ok (.goto 4, 3) := by decide +kernel
theorem dX7_isDigitNext_50 : decode cX7_isDigitNext 50 = .ok (.iconst 0, 1) := by decide +kernel
theorem dX7_isDigitNext_51 : decode cX7_isDigitNext 51 = .ok (.ireturn, 1) := by decide +kernel
theorem dX7_fail_0 : decode cX7_fail 0 = .ok (.aload_n 0, 1) := by decide +kernel
theorem dX7_fail_1 : decode cX7_fail 1 = .ok (.getfield 22, 3) := by decide +kernel
theorem dX7_fail_4 : decode cX7_fail 4 = .ok (.ifCond .ge 11, 3) := by decide +kernel
theorem dX7_fail_7 : decode cX7_fail 7 = .ok (.aload_n 0, 1) := by decide +kernel
theorem dX7_fail_8 : decode cX7_fail 8 = .ok (.aload_n 0, 1) := by decide +kernel
theorem dX7_fail_9 : decode cX7_fail 9 = .ok (.getfield 19, 3) := by decide +kernel
theorem dX7_fail_12 : decode cX7_fail 12 = .ok (.putfield 22, 3) := by decide +kernel
theorem dX7_fail_15 : decode cX7_fail 15 = .ok (.return_, 1) := by decide +kernel
theorem dX8_init_0 : decode cX8_init 0 = .ok (.aload_n 0, 1) := by decide +kernel
theorem dX8_init_1 : decode cX8_init 1 = .ok (.invokespecial 1, 3) := by decide +kernel
theorem dX8_init_4 : decode cX8_init 4 = .ok (.aload_n 0, 1) := by decide +kernel
theorem dX8_init_5 : decode cX8_init 5 = .ok (.iload_n 1, 1) := by decide +kernel
theorem dX8_init_6 : decode cX8_init 6 = .ok (.putfield 7, 3) := by decide +kernel
theorem dX8_init_9 : decode cX8_init 9 = .ok (.aload_n 0, 1) := by decide +kernel
theorem dX8_init_10 : decode cX8_init 10 = .ok (.iload_n 2, 1) := by decide +kernel
theorem dX8_init_11 : decode cX8_init 11 = .ok (.putfield 13, 3) := by decide +kernel
theorem dX8_init_14 : decode cX8_init 14 = .ok (.aload_n 0, 1) := by decide +kernel
theorem dX8_init_15 : decode cX8_init 15 = .ok (.iload_n 3, 1) := by decide +kernel
theorem dX8_init_16 : decode cX8_init 16 = .ok (.putfield 16, 3) := by decide +kernel
theorem dX8_init_19 : decode cX8_init 19 = .ok (.aload_n 0, 1) := by decide +kernel
theorem dX8_init_20 : decode cX8_init 20 = .ok (.iload 4, 2) := by decide +kernel
theorem dX8_init_22 : decode cX8_init 22 = .ok (.putfield 19, 3) := by decide +kernel
theorem dX8_init_25 : decode cX8_init 25 = .ok (.aload_n 0, 1) := by decide +kernel
theorem dX8_init_26 : decode cX8_init 26 = .ok (.iload 5, 2) := by decide +kernel
theorem dX8_init_28 : decode cX8_init 28 = .ok (.putfield 22, 3) := by decide +kernel
theorem dX8_init_31 : decode cX8_init 31 = .ok (.return_, 1) := by decide +kernel
theorem dX9_init_0 : decode cX9_init 0 = .ok (.aload_n 0, 1) := by decide +kernel
theorem dX9_init_1 : decode cX9_init 1 = .ok (.invokespecial 3, 3) := by decide +kernel
theorem dX9_init_4 : decode cX9_init 4 = .ok (.aload_n 0, 1) := by decide +kernel
theorem dX9_init_5 : decode cX9_init 5 = .ok (.iconst 4, 1) := by decide +kernel
theorem dX9_init_6 : decode cX9_init 6 = .ok (.putfield 9, 3) := by decide +kernel
theorem dX9_init_9 : decode cX9_init 9 = .ok (.aload_n 0, 1) := by decide +kernel
theorem dX9_init_10 : decode cX9_init 10 = .ok (.iconst 0, 1) := by decide +kernel
theorem dX9_init_11 : decode cX9_init 11 = .ok (.putfield 15, 3) := by decide +kernel
theorem dX9_init_14 : decode cX9_init 14 = .ok (.aload_n 0, 1) := by decide +kernel
theorem dX9_init_15 : decode cX9_init 15 = .ok (.bipush 64, 2) := by decide +kernel
theorem dX9_init_17 : decode cX9_init 17 = .ok (.newarray .int, 2) := by decide +kernel
theorem dX9_init_19 : decode cX9_init 19 = .ok (.putfield 18, 3) := by decide +kernel
theorem dX9_init_22 : decode cX9_init 22 = .ok (.aload_n 0, 1) := by decide +kernel
theorem dX9_init_23 : decode cX9_init 23 = .ok (.bipush 64, 2) := by decide +kernel
theorem dX9_init_25 : decode cX9_init 25 = .ok (.newarray .int, 2) := by decide +kernel
theorem dX9_init_27 : decode cX9_init 27 = .ok (.putfield 22, 3) := by decide +kernel
theorem dX9_init_30 : decode cX9_init 30 = .ok (.aload_n 0, 1) := by decide +kernel
theorem dX9_init_31 : decode cX9_init 31 = .ok (.iconst 0, 1) := by decide +kernel
theorem dX9_init_32 : decode cX9_init 32 = .ok (.putfield 25, 3) := by decide +kernel
theorem dX9_init_35 : decode cX9_init 35 = .ok (.aload_n 0, 1) := by decide +kernel
theorem dX9_init_36 : decode cX9_init 36 = .ok (.bipush 7, 2) := by decide +kernel
theorem dX9_init_38 : decode cX9_init 38 = .ok (.anewarray 28, 3) := by decide +kernel
theorem dX9_init_41 : decode cX9_init 41 = .ok (.putfield 30, 3) := by decide +kernel
theorem dX9_init_44 : decode cX9_init 44 = .ok (.aload_n 0, 1) := by decide +kernel
theorem dX9_init_45 : decode cX9_init 45 = .ok (.iconst 4, 1) := by decide +kernel
theorem dX9_init_46 : decode cX9_init 46 = .ok (.newarray .int, 2) := by decide +kernel
theorem dX9_init_48 : decode cX9_init 48 = .ok (.dup, 1) := by decide +kernel
theorem dX9_init_49 : decode cX9_init 49 = .ok (.iconst 0, 1) := by decide +kernel
theorem dX9_init_50 : decode cX9_init 50 = .ok (.bipush 100, 2) := by decide +kernel
theorem dX9_init_52 : decode cX9_init 52 = .ok (.iastore, 1) := by decide +kernel
theorem dX9_init_53 : decode cX9_init 53 = .ok (.dup, 1) := by decide +kernel
theorem dX9_init_54 : decode cX9_init 54 = .ok (.iconst 1, 1) := by decide +kernel
theorem dX9_init_55 : decode cX9_init 55 = .ok (.sipush 300, 3) := by decide +kernel
theorem dX9_init_58 : decode cX9_init 58 = .ok (.iastore, 1) := by decide +kernel
theorem dX9_init_59 : decode cX9_init 59 = .ok (.dup, 1) := by decide +kernel
theorem dX9_init_60 : decode cX9_init 60 = .ok (.iconst 2, 1) := by decide +kernel
theorem dX9_init_61 : decode cX9_init 61 = .ok (.sipush 400, 3) := by decide +kernel
theorem dX9_init_64 : decode cX9_init 64 = .ok (.iastore, 1) := by decide +kernel
theorem dX9_init_65 : decode cX9_init 65 = .ok (.dup, 1) := by decide +kernel
theorem dX9_init_66 : decode cX9_init 66 = .ok (.iconst 3, 1) := by decide +kernel
theorem dX9_init_67 : decode cX9_init 67 = .ok (.iconst 0, 1) := by decide +kernel
theorem dX9_init_68 : decode cX9_init 68 = .ok (.iastore, 1) := by decide +kernel
theorem dX9_init_69 : decode cX9_init 69 = .ok (.putfield 34, 3) := by decide +kernel
theorem dX9_init_72 : decode cX9_init 72 = .ok (.aload_n 0, 1) := by decide +kernel
theorem dX9_init_73 : decode cX9_init 73 = .ok (.iconst 0, 1) := by decide +kernel
theorem dX9_init_74 : decode cX9_init 74 = .ok (.putfield 37, 3) := by decide +kernel
theorem dX9_init_77 : decode cX9_init 77 = .ok (.aload_n 0, 1) := by decide +kernel
theorem dX9_init_78 : decode cX9_init 78 = .ok (.bipush 8, 2) := by decide +kernel
theorem dX9_init_80 : decode cX9_init 80 = .ok (.newarray .int, 2) := by decide +kernel
theorem dX9_init_82 : decode cX9_init 82 = .ok (.putfield 40, 3) := by decide +kernel
theorem dX9_init_85 : decode cX9_init 85 = .ok (.aload_n 0, 1) := by decide +kernel
theorem dX9_init_86 : decode cX9_init 86 = .ok (.bipush 8, 2) := by decide +kernel
theorem dX9_init_88 : decode cX9_init 88 = .ok (.newarray .int, 2) := by decide +kernel
theorem dX9_init_90 : decode cX9_init 90 = .ok (.putfield 43, 3) := by decide +kernel
theorem dX9_init_93 : decode cX9_init 93 = .ok (.aload_n 0, 1) := by decide +kernel
theorem dX9_init_94 : decode cX9_init 94 = .ok (.bipush 8, 2) := by decide +kernel
theorem dX9_init_96 : decode cX9_init 96 = .ok (.newarray .int, 2) := by decide +kernel
theorem dX9_init_98 : decode cX9_init 98 = .ok (.putfield 46, 3) := by decide +kernel
theorem dX9_init_101 : decode cX9_init 101 = .ok (.aload_n 0, 1) := by decide +kernel
theorem dX9_init_102 : decode cX9_init 102 = .ok (.iconst 0, 1) := by decide +kernel
theorem dX9_init_103 : decode cX9_init 103 = .ok (.putfield 49, 3) := by decide +kernel
theorem dX9_init_106 : decode cX9_init 106 = .ok (.aload_n 0, 1) := by decide +kernel
theorem dX9_init_107 : decode cX9_init 107 = .ok (.iconst 4, 1) := by decide +kernel
theorem dX9_init_108 : decode cX9_init 108 = .ok (.newarray .int, 2) := by decide +kernel
theorem dX9_init_110 : decode cX9_init 110 = .ok (.putfield 52, 3) := by decide +kernel
theorem dX9_init_113 : decode cX9_init 113 = .ok (.aload_n 0, 1) := by decide +kernel
theorem dX9_init_114 : decode cX9_init 114 = .ok (.iconst 4, 1) := by decide +kernel
theorem dX9_init_115 : decode cX9_init 115 = .ok (.newarray .int, 2) := by decide +kernel
theorem dX9_init_117 : decode cX9_init 117 = .ok (.putfield 55, 3) := by decide +kernel
theorem dX9_init_120 : decode cX9_init 120 = .ok (.aload_n 0, 1) := by decide +kernel
theorem dX9_init_121 : decode cX9_init 121 = .ok (.new 58, 3) := by decide +kernel
theorem dX9_init_124 : decode cX9_init 124 = .ok (.dup, 1) := by decide +kernel
theorem dX9_init_125 : decode cX9_init 125 = .ok (.invokespecial 60, 3) := by decide +kernel
theorem dX9_init_128 : decode cX9_init 128 = .ok (.putfield 61, 3) := by decide +kernel
theorem dX9_init_131 : decode cX9_init 131 = .ok (.new 65, 3) := by decide +kernel
theorem dX9_init_134 : decode cX9_init 134 = .ok (.dup, 1) := by decide +kernel
theorem dX9_init_135 : decode cX9_init 135 = .ok (.iconst 0, 1) := by decide +kernel
theorem dX9_init_136 : decode cX9_init 136 = .ok (.iconst 0, 1) := by decide +kernel
theorem dX9_init_137 : decode cX9_init 137 = .ok (.iconst 0, 1) := by decide +kernel
theorem dX9_init_138 : decode cX9_init 138 = .ok (.iconst 0, 1) := by decide +kernel
theorem dX9_init_139 : decode cX9_init 139 = .ok (.iconst 0, 1) := by decide +kernel
theorem dX9_init_140 : decode cX9_init 140 = .ok (.invokespecial 67, 3) := by decide +kernel
theorem dX9_init_143 : decode cX9_init 143 = .ok (.astore_n 1, 1) := by decide +kernel
theorem dX9_init_144 : decode cX9_init 144 = .ok (.iconst 0, 1) := by decide +kernel
theorem dX9_init_145 : decode cX9_init 145 = .ok (.istore_n 2, 1) := by decide +kernel
theorem dX9_init_146 : decode cX9_init 146 = .ok (.iload_n 2, 1) := by decide +kernel
theorem dX9_init_147 : decode cX9_init 147 = .ok (.bipush 7, 2) := by decide +kernel
theorem dX9_init_149 : decode cX9_init 149 = .ok (.if_icmp .ge 16, 3) := by decide +kernel
theorem dX9_init_152 : decode cX9_init 152 = .ok (.aload_n 0, 1) := by decide +kernel
theorem dX9_init_153 : decode cX9_init 153 = .ok (.getfield 30, 3) := by decide +kernel
theorem dX9_init_156 : decode cX9_init 156 = .ok (.iload_n 2, 1) := by decide +kernel
theorem dX9_init_157 : decode cX9_init 157 = .ok (.aload_n 1, 1) := by decide +kernel
theorem dX9_init_158 : decode cX9_init 158 = .ok (.aastore, 1) := by decide +kernel
theorem dX9_init_159 : decode cX9_init 159 = .ok (.iinc 2 1, 3) := by decide +kernel
theorem dX9_init_162 : decode cX9_init 162 = .ok (.goto (-16), 3) := by decide +kernel
theorem dX9_init_165 : decode cX9_init 165 = .ok (.aload_n 0, 1) := by decide +kernel
theorem dX9_init_166 : decode cX9_init 166 = .ok (.invokevirtual 70, 3) := by decide +kernel
theorem dX9_init_169 : decode cX9_init 169 = .ok (.return_, 1) := by decide +kernel
theorem dX9_copyFrom_0 : decode cX9_copyFrom 0 = .ok (.aload_n 0, 1) := by decide +kernel
theorem dX9_copyFrom_1 : decode cX9_copyFrom 1 = .ok (.aload_n 1, 1) := by decide +kernel
theorem dX9_copyFrom_2 : decode cX9_copyFrom 2 = .ok (.getfield 9, 3) := by decide +kernel
theorem dX9_copyFrom_5 : decode cX9_copyFrom 5 = .ok (.putfield 9, 3) := by decide +kernel
theorem dX9_copyFrom_8 : decode cX9_copyFrom 8 = .ok (.aload_n 0, 1) := by decide +kernel
theorem dX9_copyFrom_9 : decode cX9_copyFrom 9 = .ok (.aload_n 1, 1) := by decide +kernel
theorem dX9_copyFrom_10 : decode cX9_copyFrom 10 = .ok (.getfield 15, 3) := by decide +kernel
theorem dX9_copyFrom_13 : decode cX9_copyFrom 13 = .ok (.putfield 15, 3) := by decide +kernel
theorem dX9_copyFrom_16 : decode cX9_copyFrom 16 = .ok (.aload_n 1, 1) := by decide +kernel
theorem dX9_copyFrom_17 : decode cX9_copyFrom 17 = .ok (.getfield 18, 3) := by decide +kernel
theorem dX9_copyFrom_20 : decode cX9_copyFrom 20 = .ok (.aload_n 0, 1) := by decide +kernel
theorem dX9_copyFrom_21 : decode cX9_copyFrom 21 = .ok (.getfield 18, 3) := by decide +kernel
theorem dX9_copyFrom_24 : decode cX9_copyFrom 24 = .ok (.invokestatic 73, 3) := by decide +kernel
theorem dX9_copyFrom_27 : decode cX9_copyFrom 27 = .ok (.aload_n 1, 1) := by decide +kernel
theorem dX9_copyFrom_28 : decode cX9_copyFrom 28 = .ok (.getfield 22, 3) := by decide +kernel
theorem dX9_copyFrom_31 : decode cX9_copyFrom 31 = .ok (.aload_n 0, 1) := by decide +kernel
theorem dX9_copyFrom_32 : decode cX9_copyFrom 32 = .ok (.getfield 22, 3) := by decide +kernel
theorem dX9_copyFrom_35 : decode cX9_copyFrom 35 = .ok (.invokestatic 73, 3) := by decide +kernel
theorem dX9_copyFrom_38 : decode cX9_copyFrom 38 = .ok (.aload_n 0, 1) := by decide +kernel
theorem dX9_copyFrom_39 : decode cX9_copyFrom 39 = .ok (.aload_n 1, 1) := by decide +kernel
theorem dX9_copyFrom_40 : decode cX9_copyFrom 40 = .ok (.getfield 25, 3) := by decide +kernel
theorem dX9_copyFrom_43 : decode cX9_copyFrom 43 = .ok (.putfield 25, 3) := by decide +kernel
theorem dX9_copyFrom_46 : decode cX9_copyFrom 46 = .ok (.iconst 0, 1) := by decide +kernel
theorem dX9_copyFrom_47 : decode cX9_copyFrom 47 = .ok (.istore_n 2, 1) := by decide +kernel
theorem dX9_copyFrom_48 : decode cX9_copyFrom 48 = .ok (.iload_n 2, 1) := by decide +kernel
theorem dX9_copyFrom_49 : decode cX9_copyFrom 49 = .ok (.bipush 7, 2) := by decide +kernel
theorem dX9_copyFrom_51 : decode cX9_copyFrom 51 = .ok (.if_icmp .ge 21, 3) := by decide +kernel
theorem dX9_copyFrom_54 : decode cX9_copyFrom 54 = .ok (.aload_n 0, 1) := by decide +kernel
theorem dX9_copyFrom_55 : decode cX9_copyFrom 55 = .ok (.getfield 30, 3) := by decide +kernel
theorem dX9_copyFrom_58 : decode cX9_copyFrom 58 = .ok (.iload_n 2, 1) := by decide +kernel
theorem dX9_copyFrom_59 : decode cX9_copyFrom 59 = .ok (.aload_n 1, 1) := by decide +kernel
theorem dX9_copyFrom_60 : decode cX9_copyFrom 60 = .ok (.getfield 30, 3) := by decide +kernel
theorem dX9_copyFrom_63 : decode cX9_copyFrom 63 = .ok (.iload_n 2, 1) := by decide +kernel
theorem dX9_copyFrom_64 : decode cX9_copyFrom 64 = .ok (.aaload, 1) := by decide +kernel
theorem dX9_copyFrom_65 : decode cX9_copyFrom 65 = .ok (.aastore, 1) := by decide +kernel
theorem dX9_copyFrom_66 : decode cX9_copyFrom 66 = .ok (.iinc 2 1, 3) := by decide +kernel
theorem dX9_copyFrom_69 : decode cX9_copyFrom 69 = .ok (.goto (-21), 3) := by decide +kernel
theorem dX9_copyFrom_72 : decode cX9_copyFrom 72 = .ok (.aload_n 1, 1) := by decide +kernel
theorem dX9_copyFrom_73 : decode cX9_copyFrom 73 = .ok (.getfield 34, 3) := by decide +kernel
theorem dX9_copyFrom_76 : decode cX9_copyFrom 76 = .ok (.aload_n 0, 1) := by decide +kernel
theorem dX9_copyFrom_77 : decode cX9_copyFrom 77 = .ok (.getfield 34, 3) := by decide +kernel
theorem dX9_copyFrom_80 : decode cX9_copyFrom 80 = .ok (.invokestatic 73, 3) := by decide +kernel
theorem dX9_copyFrom_83 : decode cX9_copyFrom 83 = .ok (.aload_n 0, 1) := by decide +kernel
theorem dX9_copyFrom_84 : decode cX9_copyFrom 84 = .ok (.aload_n 1, 1) := by decide +kernel
theorem dX9_copyFrom_85 : decode cX9_copyFrom 85 = .ok (.getfield 37, 3) := by decide +kernel
theorem dX9_copyFrom_88 : decode cX9_copyFrom 88 = .ok (.putfield 37, 3) := by decide +kernel
theorem dX9_copyFrom_91 : decode cX9_copyFrom 91 = .ok (.aload_n 1, 1) := by decide +kernel
theorem dX9_copyFrom_92 : decode cX9_copyFrom 92 = .ok (.getfield 40, 3) := by decide +kernel
theorem dX9_copyFrom_95 : decode cX9_copyFrom 95 = .ok (.aload_n 0, 1) := by decide +kernel
theorem dX9_copyFrom_96 : decode cX9_copyFrom 96 = .ok (.getfield 40, 3) := by decide +kernel
theorem dX9_copyFrom_99 : decode cX9_copyFrom 99 = .ok (.invokestatic 73, 3) := by decide +kernel
theorem dX9_copyFrom_102 : decode cX9_copyFrom 102 = .ok (.aload_n 1, 1) := by decide +kernel
theorem dX9_copyFrom_103 : decode cX9_copyFrom 103 = .ok (.getfield 43, 3) := by decide +kernel
theorem dX9_copyFrom_106 : decode cX9_copyFrom 106 = .ok (.aload_n 0, 1) := by decide +kernel
theorem dX9_copyFrom_107 : decode cX9_copyFrom 107 = .ok (.getfield 43, 3) := by decide +kernel
theorem dX9_copyFrom_110 : decode cX9_copyFrom 110 = .ok (.invokestatic 73, 3) := by decide +kernel
theorem dX9_copyFrom_113 : decode cX9_copyFrom 113 = .ok (.aload_n 1, 1) := by decide +kernel
theorem dX9_copyFrom_114 : decode cX9_copyFrom 114 = .ok (.getfield 46, 3) := by decide +kernel
theorem dX9_copyFrom_117 : decode cX9_copyFrom 117 = .ok (.aload_n 0, 1) := by decide +kernel
theorem dX9_copyFrom_118 : decode cX9_copyFrom 118 = .ok (.getfield 46, 3) := by decide +kernel
theorem dX9_copyFrom_121 : decode cX9_copyFrom 121 = .ok (.invokestatic 73, 3) := by decide +kernel
theorem dX9_copyFrom_124 : decode cX9_copyFrom 124 = .ok (.aload_n 0, 1) := by decide +kernel
theorem dX9_copyFrom_125 : decode cX9_copyFrom 125 = .ok (.aload_n 1, 1) := by decide +kernel
theorem dX9_copyFrom_126 : decode cX9_copyFrom 126 = .ok (.getfield 49, 3) := by decide +kernel
theorem dX9_copyFrom_129 : decode cX9_copyFrom 129 = .ok (.putfield 49, 3) := by decide +kernel
theorem dX9_copyFrom_132 : decode cX9_copyFrom 132 = .ok (.aload_n 1, 1) := by decide +kernel
theorem dX9_copyFrom_133 : decode cX9_copyFrom 133 = .ok (.getfield 52, 3) := by decide +kernel
theorem dX9_copyFrom_136 : decode cX9_copyFrom 136 = .ok (.aload_n 0, 1) := by decide +kernel
theorem dX9_copyFrom_137 : decode cX9_copyFrom 137 = .ok (.getfield 52, 3) := by decide +kernel
theorem dX9_copyFrom_140 : decode cX9_copyFrom 140 = .ok (.invokestatic 73, 3) := by decide +kernel
theorem dX9_copyFrom_143 : decode cX9_copyFrom 143 = .ok (.aload_n 1, 1) := by decide +kernel
theorem dX9_copyFrom_144 : decode cX9_copyFrom 144 = .ok (.getfield 55, 3) := by decide +kernel
theorem dX9_copyFrom_147 : decode cX9_copyFrom 147 = .ok (.aload_n 0, 1) := by decide +kernel
theorem dX9_copyFrom_148 : decode cX9_copyFrom 148 = .ok (.getfield 55, 3) := by decide +kernel
theorem dX9_copyFrom_151 : decode cX9_copyFrom 151 = .ok (.invokestatic 73, 3) := by decide +kernel
theorem dX9_copyFrom_154 : decode cX9_copyFrom 154 = .ok (.aload_n 0, 1) := by decide +kernel
theorem dX9_copyFrom_155 : decode cX9_copyFrom 155 = .ok (.getfield 61, 3) := by decide +kernel
theorem dX9_copyFrom_158 : decode cX9_copyFrom 158 = .ok (.aload_n 1, 1) := by decide +kernel
theorem dX9_copyFrom_159 : decode cX9_copyFrom 159 = .ok (.getfield 61, 3) := by decide +kernel
theorem dX9_copyFrom_162 : decode cX9_copyFrom 162 = .ok (.invokevirtual 77, 3) := by decide +kernel
theorem dX9_copyFrom_165 : decode cX9_copyFrom 165 = .ok (.return_, 1) := by decide +kernel
theorem dX9_isPlace_0 : decode cX9_isPlace 0 = .ok (.iload_n 1, 1) := by decide +kernel
theorem dX9_isPlace_1 : decode cX9_isPlace 1 = .ok (.ifCond .lt 15, 3) := by decide +kernel
theorem dX9_isPlace_4 : decode cX9_isPlace 4 = .ok (.iload_n 1, 1) := by decide +kernel
theorem dX9_isPlace_5 : decode cX9_isPlace 5 = .ok (.aload_n 0, 1) := by decide +kernel
theorem dX9_isPlace_6 : decode cX9_isPlace 6 = .ok (.getfield 9, 3) := by decide +kernel
theorem dX9_isPlace_9 : decode cX9_isPlace 9 = .ok (.if_icmp .ge 7, 3) := by decide +kernel
theorem dX9_isPlace_12 : decode cX9_isPlace 12 = .ok (.iconst 1, 1) := by decide +kernel
theorem dX9_isPlace_13 : decode cX9_isPlace 13 = .ok (.goto 4, 3) := by decide +kernel
theorem dX9_isPlace_16 : decode cX9_isPlace 16 = .ok (.iconst 0, 1) := by decide +kernel
theorem dX9_isPlace_17 : decode cX9_isPlace 17 = .ok (.ireturn, 1) := by decide +kernel
theorem dX9_isThing_0 : decode cX9_isThing 0 = .ok (.iload_n 1, 1) := by decide +kernel
theorem dX9_isThing_1 : decode cX9_isThing 1 = .ok (.ifCond .lt 15, 3) := by decide +kernel
theorem dX9_isThing_4 : decode cX9_isThing 4 = .ok (.iload_n 1, 1) := by decide +kernel
theorem dX9_isThing_5 : decode cX9_isThing 5 = .ok (.aload_n 0, 1) := by decide +kernel
theorem dX9_isThing_6 : decode cX9_isThing 6 = .ok (.getfield 25, 3) := by decide +kernel
theorem dX9_isThing_9 : decode cX9_isThing 9 = .ok (.if_icmp .ge 7, 3) := by decide +kernel
theorem dX9_isThing_12 : decode cX9_isThing 12 = .ok (.iconst 1, 1) := by decide +kernel
theorem dX9_isThing_13 : decode cX9_isThing 13 = .ok (.goto 4, 3) := by decide +kernel
theorem dX9_isThing_16 : decode cX9_isThing 16 = .ok (.iconst 0, 1) := by decide +kernel
theorem dX9_isThing_17 : decode cX9_isThing 17 = .ok (.ireturn, 1) := by decide +kernel
theorem dX9_miles_0 : decode cX9_miles 0 = .ok (.aload_n 0, 1) := by decide +kernel
theorem dX9_miles_1 : decode cX9_miles 1 = .ok (.getfield 22, 3) := by decide +kernel
theorem dX9_miles_4 : decode cX9_miles 4 = .ok (.iload_n 1, 1) := by decide +kernel
theorem dX9_miles_5 : decode cX9_miles 5 = .ok (.bipush 8, 2) := by decide +kernel
theorem dX9_miles_7 : decode cX9_miles 7 = .ok (.imul, 1) := by decide +kernel
theorem dX9_miles_8 : decode cX9_miles 8 = .ok (.iload_n 2, 1) := by decide +kernel
theorem dX9_miles_9 : decode cX9_miles 9 = .ok (.iadd, 1) := by decide +kernel
theorem dX9_miles_10 : decode cX9_miles 10 = .ok (.iaload, 1) := by decide +kernel
theorem dX9_miles_11 : decode cX9_miles 11 = .ok (.ireturn, 1) := by decide +kernel
theorem dX9_allWeights_0 : decode cX9_allWeights 0 = .ok (.iconst 0, 1) := by decide +kernel
theorem dX9_allWeights_1 : decode cX9_allWeights 1 = .ok (.istore_n 1, 1) := by decide +kernel
theorem dX9_allWeights_2 : decode cX9_allWeights 2 = .ok (.iconst 0, 1) := by decide +kernel
theorem dX9_allWeights_3 : decode cX9_allWeights 3 = .ok (.istore_n 2, 1) := by decide +kernel
theorem dX9_allWeights_4 : decode cX9_allWeights 4 = .ok (.iload_n 2, 1) := by decide +kernel
theorem dX9_allWeights_5 : decode cX9_allWeights 5 = .ok (.aload_n 0, 1) := by decide +kernel
theorem dX9_allWeights_6 : decode cX9_allWeights 6 = .ok (.getfield 9, 3) := by decide +kernel
theorem dX9_allWeights_9 : decode cX9_allWeights 9 = .ok (.if_icmp .ge 18, 3) := by decide +kernel
theorem dX9_allWeights_12 : decode cX9_allWeights 12 = .ok (.iload_n 1, 1) := by decide +kernel
theorem dX9_allWeights_13 : decode cX9_allWeights 13 = .ok (.aload_n 0, 1) := by decide +kernel
theorem dX9_allWeights_14 : decode cX9_allWeights 14 = .ok (.getfield 43, 3) := by decide +kernel
theorem dX9_allWeights_17 : decode cX9_allWeights 17 = .ok (.iload_n 2, 1) := by decide +kernel
theorem dX9_allWeights_18 : decode cX9_allWeights 18 = .ok (.iaload, 1) := by decide +kernel
theorem dX9_allWeights_19 : decode cX9_allWeights 19 = .ok (.iadd, 1) := by decide +kernel
theorem dX9_allWeights_20 : decode cX9_allWeights 20 = .ok (.istore_n 1, 1) := by decide +kernel
theorem dX9_allWeights_21 : decode cX9_allWeights 21 = .ok (.iinc 2 1, 3) := by decide +kernel
theorem dX9_allWeights_24 : decode cX9_allWeights 24 = .ok (.goto (-20), 3) := by decide +kernel
theorem dX9_allWeights_27 : decode cX9_allWeights 27 = .ok (.iload_n 1, 1) := by decide +kernel
theorem dX9_allWeights_28 : decode cX9_allWeights 28 = .ok (.ireturn, 1) := by decide +kernel
theorem dX9_tellPlaces_0 : decode cX9_tellPlaces 0 = .ok (.iload_n 1, 1) := by decide +kernel
theorem dX9_tellPlaces_1 : decode cX9_tellPlaces 1 = .ok (.iconst 2, 1) := by decide +kernel
theorem dX9_tellPlaces_2 : decode cX9_tellPlaces 2 = .ok (.if_icmp .lt 17, 3) := by decide +kernel
theorem dX9_tellPlaces_5 : decode cX9_tellPlaces 5 = .ok (.iload_n 1, 1) := by decide +kernel
theorem dX9_tellPlaces_6 : decode cX9_tellPlaces 6 = .ok (.bipush 8, 2) := by decide +kernel
theorem dX9_tellPlaces_8 : decode cX9_tellPlaces 8 = .ok (.if_icmp .gt 11, 3) := by decide +kernel
theorem dX9_tellPlaces_11 : decode cX9_tellPlaces 11 = .ok (.iload_n 1, 1) := by decide +kernel
theorem dX9_tellPlaces_12 : decode cX9_tellPlaces 12 = .ok (.aload_n 0, 1) := by decide +kernel
theorem dX9_tellPlaces_13 : decode cX9_tellPlaces 13 = .ok (.invokevirtual 81, 3) := by decide +kernel
theorem dX9_tellPlaces_16 : decode cX9_tellPlaces 16 = .ok (.if_icmp .ge 5, 3) := by decide +kernel
theorem dX9_tellPlaces_19 : decode cX9_tellPlaces 19 = .ok (.iconst 0, 1) := by decide +kernel
theorem dX9_tellPlaces_20 : decode cX9_tellPlaces 20 = .ok (.ireturn, 1) := by decide +kernel
theorem dX9_tellPlaces_21 : decode cX9_tellPlaces 21 = .ok (.aload_n 0, 1) := by decide +kernel
theorem dX9_tellPlaces_22 : decode cX9_tellPlaces 22 = .ok (.iload_n 1, 1) := by decide +kernel
theorem dX9_tellPlaces_23 : decode cX9_tellPlaces 23 = .ok (.putfield 9, 3) := by decide +kernel
theorem dX9_tellPlaces_26 : decode cX9_tellPlaces 26 = .ok (.iconst 1, 1) := by decide +kernel
theorem dX9_tellPlaces_27 : decode cX9_tellPlaces 27 = .ok (.ireturn, 1) := by decide +kernel
theorem dX9_tellWay_0 : decode cX9_tellWay 0 = .ok (.aload_n 0, 1) := by decide +kernel
theorem dX9_tellWay_1 : decode cX9_tellWay 1 = .ok (.iload_n 1, 1) := by decide +kernel
theorem dX9_tellWay_2 : decode cX9_tellWay 2 = .ok (.invokevirtual 85, 3) := by decide +kernel
theorem dX9_tellWay_5 : decode cX9_tellWay 5 = .ok (.ifCond .eq 28, 3) := by decide +kernel
theorem dX9_tellWay_8 : decode cX9_tellWay 8 = .ok (.aload_n 0, 1) := by decide +kernel
theorem dX9_tellWay_9 : decode cX9_tellWay 9 = .ok (.iload_n 2, 1) := by decide +kernel
theorem dX9_tellWay_10 : decode cX9_tellWay 10 = .ok (.invokevirtual 85, 3) := by decide +kernel
theorem dX9_tellWay_13 : decode cX9_tellWay 13 = .ok (.ifCond .eq 20, 3) := by decide +kernel
theorem dX9_tellWay_16 : decode cX9_tellWay 16 = .ok (.iload_n 1, 1) := by decide +kernel
theorem dX9_tellWay_17 : decode cX9_tellWay 17 = .ok (.iload_n 2, 1) := by decide +kernel
theorem dX9_tellWay_18 : decode cX9_tellWay 18 = .ok (.if_icmp .eq 15, 3) := by decide +kernel
theorem dX9_tellWay_21 : decode cX9_tellWay 21 = .ok (.iload_n 3, 1) := by decide +kernel
theorem dX9_tellWay_22 : decode cX9_tellWay 22 = .ok (.iconst 1, 1) := by decide +kernel
theorem dX9_tellWay_23 : decode cX9_tellWay 23 = .ok (.if_icmp .lt 10, 3) := by decide +kernel
theorem dX9_tellWay_26 : decode cX9_tellWay 26 = .ok (.iload_n 3, 1) := by decide +kernel
theorem dX9_tellWay_27 : decode cX9_tellWay 27 = .ok (.sipush 200, 3) := by decide +kernel
theorem dX9_tellWay_30 : decode cX9_tellWay 30 = .ok (.if_icmp .le 5, 3) := by decide +kernel
theorem dX9_tellWay_33 : decode cX9_tellWay 33 = .ok (.iconst 0, 1) := by decide +kernel
theorem dX9_tellWay_34 : decode cX9_tellWay 34 = .ok (.ireturn, 1) := by decide +kernel
theorem dX9_tellWay_35 : decode cX9_tellWay 35 = .ok (.aload_n 0, 1) := by decide +kernel
theorem dX9_tellWay_36 : decode cX9_tellWay 36 = .ok (.getfield 18, 3) := by decide +kernel
theorem dX9_tellWay_39 : decode cX9_tellWay 39 = .ok (.iload_n 1, 1) := by decide +kernel
theorem dX9_tellWay_40 : decode cX9_tellWay 40 = .ok (.bipush 8, 2) := by decide +kernel
theorem dX9_tellWay_42 : decode cX9_tellWay 42 = .ok (.imul, 1) := by decide +kernel
theorem dX9_tellWay_43 : decode cX9_tellWay 43 = .ok (.iload_n 2, 1) := by decide +kernel
theorem dX9_tellWay_44 : decode cX9_tellWay 44 = .ok (.iadd, 1) := by decide +kernel
theorem dX9_tellWay_45 : decode cX9_tellWay 45 = .ok (.iaload, 1) := by decide +kernel
theorem dX9_tellWay_46 : decode cX9_tellWay 46 = .ok (.ifCond .gt 12, 3) := by decide +kernel
theorem dX9_tellWay_49 : decode cX9_tellWay 49 = .ok (.aload_n 0, 1) := by decide +kernel
theorem dX9_tellWay_50 : decode cX9_tellWay 50 = .ok (.getfield 15, 3) := by decide +kernel
theorem dX9_tellWay_53 : decode cX9_tellWay 53 = .ok (.bipush 14, 2) := by decide +kernel
theorem dX9_tellWay_55 : decode cX9_tellWay 55 = .ok (.if_icmp .lt 5, 3) := by decide +kernel
theorem dX9_tellWay_58 : decode cX9_tellWay 58 = .ok (.iconst 0, 1) := by decide +kernel
theorem dX9_tellWay_59 : decode cX9_tellWay 59 = .ok (.ireturn, 1) := by decide +kernel
theorem dX9_tellWay_60 : decode cX9_tellWay 60 = .ok (.aload_n 0, 1) := by decide +kernel
theorem dX9_tellWay_61 : decode cX9_tellWay 61 = .ok (.getfield 18, 3) := by decide +kernel
theorem dX9_tellWay_64 : decode cX9_tellWay 64 = .ok (.iload_n 1, 1) := by decide +kernel
theorem dX9_tellWay_65 : decode cX9_tellWay 65 = .ok (.bipush 8, 2) := by decide +kernel
theorem dX9_tellWay_67 : decode cX9_tellWay 67 = .ok (.imul, 1) := by decide +kernel
theorem dX9_tellWay_68 : decode cX9_tellWay 68 = .ok (.iload_n 2, 1) := by decide +kernel
theorem dX9_tellWay_69 : decode cX9_tellWay 69 = .ok (.iadd, 1) := by decide +kernel
theorem dX9_tellWay_70 : decode cX9_tellWay 70 = .ok (.iload_n 3, 1) := by decide +kernel
theorem dX9_tellWay_71 : decode cX9_tellWay 71 = .ok (.iastore, 1) := by decide +kernel
theorem dX9_tellWay_72 : decode cX9_tellWay 72 = .ok (.aload_n 0, 1) := by decide +kernel
theorem dX9_tellWay_73 : decode cX9_tellWay 73 = .ok (.getfield 18, 3) := by decide +kernel
theorem dX9_tellWay_76 : decode cX9_tellWay 76 = .ok (.iload_n 2, 1) := by decide +kernel
theorem dX9_tellWay_77 : decode cX9_tellWay 77 = .ok (.bipush 8, 2) := by decide +kernel
theorem dX9_tellWay_79 : decode cX9_tellWay 79 = .ok (.imul, 1) := by decide +kernel
theorem dX9_tellWay_80 : decode cX9_tellWay 80 = .ok (.iload_n 1, 1) := by decide +kernel
theorem dX9_tellWay_81 : decode cX9_tellWay 81 = .ok (.iadd, 1) := by decide +kernel
theorem dX9_tellWay_82 : decode cX9_tellWay 82 = .ok (.iload_n 3, 1) := by decide +kernel
theorem dX9_tellWay_83 : decode cX9_tellWay 83 = .ok (.iastore, 1) := by decide +kernel
theorem dX9_tellWay_84 : decode cX9_tellWay 84 = .ok (.aload_n 0, 1) := by decide +kernel
theorem dX9_tellWay_85 : decode cX9_tellWay 85 = .ok (.dup, 1) := by decide +kernel
theorem dX9_tellWay_86 : decode cX9_tellWay 86 = .ok (.getfield 15, 3) := by decide +kernel
theorem dX9_tellWay_89 : decode cX9_tellWay 89 = .ok (.iconst 1, 1) := by decide +kernel
theorem dX9_tellWay_90 : decode cX9_tellWay 90 = .ok (.iadd, 1) := by decide +kernel
theorem dX9_tellWay_91 : decode cX9_tellWay 91 = .ok (.putfield 15, 3) := by decide +kernel
theorem dX9_tellWay_94 : decode cX9_tellWay 94 = .ok (.iconst 1, 1) := by decide +kernel
theorem dX9_tellWay_95 : decode cX9_tellWay 95 = .ok (.ireturn, 1) := by decide +kernel
theorem dX9_tellThing_0 : decode cX9_tellThing 0 = .ok (.aload_n 0, 1) := by decide +kernel
theorem dX9_tellThing_1 : decode cX9_tellThing 1 = .ok (.iload_n 2, 1) := by decide +kernel
theorem dX9_tellThing_2 : decode cX9_tellThing 2 = .ok (.invokevirtual 85, 3) := by decide +kernel
theorem dX9_tellThing_5 : decode cX9_tellThing 5 = .ok (.ifCond .eq 12, 3) := by decide +kernel
theorem dX9_tellThing_8 : decode cX9_tellThing 8 = .ok (.aload_n 0, 1) := by decide +kernel
theorem dX9_tellThing_9 : decode cX9_tellThing 9 = .ok (.getfield 25, 3) := by decide +kernel
theorem dX9_tellThing_12 : decode cX9_tellThing 12 = .ok (.bipush 7, 2) := by decide +kernel
theorem dX9_tellThing_14 : decode cX9_tellThing 14 = .ok (.if_icmp .lt 5, 3) := by decide +kernel
theorem dX9_tellThing_17 : decode cX9_tellThing 17 = .ok (.iconst 0, 1) := by decide +kernel
theorem dX9_tellThing_18 : decode cX9_tellThing 18 = .ok (.ireturn, 1) := by decide +kernel
theorem dX9_tellThing_19 : decode cX9_tellThing 19 = .ok (.ldc 89, 2) := by decide +kernel
theorem dX9_tellThing_21 : decode cX9_tellThing 21 = .ok (.iload_n 1, 1) := by decide +kernel
theorem dX9_tellThing_22 : decode cX9_tellThing 22 = .ok (.invokevirtual 91, 3) := by decide +kernel
theorem dX9_tellThing_25 : decode cX9_tellThing 25 = .ok (.istore 5, 2) := by decide +kernel
theorem dX9_tellThing_27 : decode cX9_tellThing 27 = .ok (.iload 5, 2) := by decide +kernel
theorem dX9_tellThing_29 : decode cX9_tellThing 29 = .ok (.bipush 98, 2) := by decide +kernel
theorem dX9_tellThing_31 : decode cX9_tellThing 31 = .ok (.if_icmp .ne 14, 3) := by decide +kernel
theorem dX9_tellThing_34 : decode cX9_tellThing 34 = .ok (.aload_n 0, 1) := by decide +kernel
theorem dX9_tellThing_35 : decode cX9_tellThing 35 = .ok (.iload 4, 2) := by decide +kernel
theorem dX9_tellThing_37 : decode cX9_tellThing 37 = .ok (.invokevirtual 97, 3) := by decide +kernel
theorem dX9_tellThing_40 : decode cX9_tellThing 40 = .ok (.ifCond .ne 5, 3) := by decide +kernel
theorem dX9_tellThing_43 : decode cX9_tellThing 43 = .ok (.iconst 0, 1) := by decide +kernel
theorem dX9_tellThing_44 : decode cX9_tellThing 44 = .ok (.ireturn, 1) := by decide +kernel
theorem dX9_tellThing_45 : decode cX9_tellThing 45 = .ok (.iload 5, 2) := by decide +kernel
theorem dX9_tellThing_47 : decode cX9_tellThing 47 = .ok (.lookupswitch 189 #[(97, 49), (98, 77), (103, 133), (108, 161), (121, 105)], 49) := by decide +kernel
theorem dX9_tellThing_96 : decode cX9_tellThing 96 = .ok (.aload_n 0, 1) := by decide +kernel
theorem dX9_tellThing_97 : decode cX9_tellThing 97 = .ok (.getfield 30, 3) := by decide +kernel
theorem dX9_tellThing_100 : decode cX9_tellThing 100 = .ok (.aload_n 0, 1) := by decide +kernel
theorem dX9_tellThing_101 : decode cX9_tellThing 101 = .ok (.getfield 25, 3) := by decide +kernel
theorem dX9_tellThing_104 : decode cX9_tellThing 104 = .ok (.new 100, 3) := by decide +kernel
theorem dX9_tellThing_107 : decode cX9_tellThing 107 = .ok (.dup, 1) := by decide +kernel
theorem dX9_tellThing_108 : decode cX9_tellThing 108 = .ok (.iload_n 1, 1) := by decide +kernel
theorem dX9_tellThing_109 : decode cX9_tellThing 109 = .ok (.aload_n 0, 1) := by decide +kernel
theorem dX9_tellThing_110 : decode cX9_tellThing 110 = .ok (.getfield 25, 3) := by decide +kernel
theorem dX9_tellThing_113 : decode cX9_tellThing 113 = .ok (.iload_n 2, 1) := by decide +kernel
theorem dX9_tellThing_114 : decode cX9_tellThing 114 = .ok (.iload_n 3, 1) := by decide +kernel
theorem dX9_tellThing_115 : decode cX9_tellThing 115 = .ok (.iload 4, 2) := by decide +kernel
theorem dX9_tellThing_117 : decode cX9_tellThing 117 = .ok (.invokespecial 102, 3) := by decide +kernel
theorem dX9_tellThing_120 : decode cX9_tellThing 120 = .ok (.aastore, 1) := by decide +kernel
theorem dX9_tellThing_121 : decode cX9_tellThing 121 = .ok (.goto 140, 3) := by decide +kernel
theorem dX9_tellThing_124 : decode cX9_tellThing 124 = .ok (.aload_n 0, 1) := by decide +kernel
theorem dX9_tellThing_125 : decode cX9_tellThing 125 = .ok (.getfield 30, 3) := by decide +kernel
theorem dX9_tellThing_128 : decode cX9_tellThing 128 = .ok (.aload_n 0, 1) := by decide +kernel
theorem dX9_tellThing_129 : decode cX9_tellThing 129 = .ok (.getfield 25, 3) := by decide +kernel
theorem dX9_tellThing_132 : decode cX9_tellThing 132 = .ok (.new 103, 3) := by decide +kernel
theorem dX9_tellThing_135 : decode cX9_tellThing 135 = .ok (.dup, 1) := by decide +kernel
theorem dX9_tellThing_136 : decode cX9_tellThing 136 = .ok (.iload_n 1, 1) := by decide +kernel
theorem dX9_tellThing_137 : decode cX9_tellThing 137 = .ok (.aload_n 0, 1) := by decide +kernel
theorem dX9_tellThing_138 : decode cX9_tellThing 138 = .ok (.getfield 25, 3) := by decide +kernel
theorem dX9_tellThing_141 : decode cX9_tellThing 141 = .ok (.iload_n 2, 1) := by decide +kernel
theorem dX9_tellThing_142 : decode cX9_tellThing 142 = .ok (.iload_n 3, 1) := by decide +kernel
theorem dX9_tellThing_143 : decode cX9_tellThing 143 = .ok (.iload 4, 2) := by decide +kernel
theorem dX9_tellThing_145 : decode cX9_tellThing 145 = .ok (.invokespecial 105, 3) := by decide +kernel
theorem dX9_tellThing_148 : decode cX9_tellThing 148 = .ok (.aastore, 1) := by decide +kernel
theorem dX9_tellThing_149 : decode cX9_tellThing 149 = .ok (.goto 112, 3) := by decide +kernel
theorem dX9_tellThing_152 : decode cX9_tellThing 152 = .ok (.aload_n 0, 1) := by decide +kernel
theorem dX9_tellThing_153 : decode cX9_tellThing 153 = .ok (.getfield 30, 3) := by decide +kernel
theorem dX9_tellThing_156 : decode cX9_tellThing 156 = .ok (.aload_n 0, 1) := by decide +kernel
theorem dX9_tellThing_157 : decode cX9_tellThing 157 = .ok (.getfield 25, 3) := by decide +kernel
theorem dX9_tellThing_160 : decode cX9_tellThing 160 = .ok (.new 106, 3) := by decide +kernel
theorem dX9_tellThing_163 : decode cX9_tellThing 163 = .ok (.dup, 1) := by decide +kernel
theorem dX9_tellThing_164 : decode cX9_tellThing 164 = .ok (.iload_n 1, 1) := by decide +kernel
theorem dX9_tellThing_165 : decode cX9_tellThing 165 = .ok (.aload_n 0, 1) := by decide +kernel
theorem dX9_tellThing_166 : decode cX9_tellThing 166 = .ok (.getfield 25, 3) := by decide +kernel
theorem dX9_tellThing_169 : decode cX9_tellThing 169 = .ok (.iload_n 2, 1) := by decide +kernel
theorem dX9_tellThing_170 : decode cX9_tellThing 170 = .ok (.iload_n 3, 1) := by decide +kernel
theorem dX9_tellThing_171 : decode cX9_tellThing 171 = .ok (.iload 4, 2) := by decide +kernel
theorem dX9_tellThing_173 : decode cX9_tellThing 173 = .ok (.invokespecial 108, 3) := by decide +kernel
theorem dX9_tellThing_176 : decode cX9_tellThing 176 = .ok (.aastore, 1) := by decide +kernel
theorem dX9_tellThing_177 : decode cX9_tellThing 177 = .ok (.goto 84, 3) := by decide +kernel
theorem dX9_tellThing_180 : decode cX9_tellThing 180 = .ok (.aload_n 0, 1) := by decide +kernel
theorem dX9_tellThing_181 : decode cX9_tellThing 181 = .ok (.getfield 30, 3) := by decide +kernel
theorem dX9_tellThing_184 : decode cX9_tellThing 184 = .ok (.aload_n 0, 1) := by decide +kernel
theorem dX9_tellThing_185 : decode cX9_tellThing 185 = .ok (.getfield 25, 3) := by decide +kernel
theorem dX9_tellThing_188 : decode cX9_tellThing 188 = .ok (.new 109, 3) := by decide +kernel
theorem dX9_tellThing_191 : decode cX9_tellThing 191 = .ok (.dup, 1) := by decide +kernel
theorem dX9_tellThing_192 : decode cX9_tellThing 192 = .ok (.iload_n 1, 1) := by decide +kernel
theorem dX9_tellThing_193 : decode cX9_tellThing 193 = .ok (.aload_n 0, 1) := by decide +kernel
theorem dX9_tellThing_194 : decode cX9_tellThing 194 = .ok (.getfield 25, 3) := by decide +kernel
theorem dX9_tellThing_197 : decode cX9_tellThing 197 = .ok (.iload_n 2, 1) := by decide +kernel
theorem dX9_tellThing_198 : decode cX9_tellThing 198 = .ok (.iload_n 3, 1) := by decide +kernel
theorem dX9_tellThing_199 : decode cX9_tellThing 199 = .ok (.iload 4, 2) := by decide +kernel
theorem dX9_tellThing_201 : decode cX9_tellThing 201 = .ok (.invokespecial 111, 3) := by decide +kernel
theorem dX9_tellThing_204 : decode cX9_tellThing 204 = .ok (.aastore, 1) := by decide +kernel
theorem dX9_tellThing_205 : decode cX9_tellThing 205 = .ok (.goto 56, 3) := by decide +kernel
theorem dX9_tellThing_208 : decode cX9_tellThing 208 = .ok (.aload_n 0, 1) := by decide +kernel
theorem dX9_tellThing_209 : decode cX9_tellThing 209 = .ok (.getfield 30, 3) := by decide +kernel
theorem dX9_tellThing_212 : decode cX9_tellThing 212 = .ok (.aload_n 0, 1) := by decide +kernel
theorem dX9_tellThing_213 : decode cX9_tellThing 213 = .ok (.getfield 25, 3) := by decide +kernel
theorem dX9_tellThing_216 : decode cX9_tellThing 216 = .ok (.new 112, 3) := by decide +kernel
theorem dX9_tellThing_219 : decode cX9_tellThing 219 = .ok (.dup, 1) := by decide +kernel
theorem dX9_tellThing_220 : decode cX9_tellThing 220 = .ok (.iload_n 1, 1) := by decide +kernel
theorem dX9_tellThing_221 : decode cX9_tellThing 221 = .ok (.aload_n 0, 1) := by decide +kernel
theorem dX9_tellThing_222 : decode cX9_tellThing 222 = .ok (.getfield 25, 3) := by decide +kernel
theorem dX9_tellThing_225 : decode cX9_tellThing 225 = .ok (.iload_n 2, 1) := by decide +kernel
theorem dX9_tellThing_226 : decode cX9_tellThing 226 = .ok (.iload_n 3, 1) := by decide +kernel
theorem dX9_tellThing_227 : decode cX9_tellThing 227 = .ok (.iload 4, 2) := by decide +kernel
theorem dX9_tellThing_229 : decode cX9_tellThing 229 = .ok (.invokespecial 114, 3) := by decide +kernel
theorem dX9_tellThing_232 : decode cX9_tellThing 232 = .ok (.aastore, 1) := by decide +kernel
theorem dX9_tellThing_233 : decode cX9_tellThing 233 = .ok (.goto 28, 3) := by decide +kernel
theorem dX9_tellThing_236 : decode cX9_tellThing 236 = .ok (.aload_n 0, 1) := by decide +kernel
theorem dX9_tellThing_237 : decode cX9_tellThing 237 = .ok (.getfield 30, 3) := by decide +kernel
theorem dX9_tellThing_240 : decode cX9_tellThing 240 = .ok (.aload_n 0, 1) := by decide +kernel
theorem dX9_tellThing_241 : decode cX9_tellThing 241 = .ok (.getfield 25, 3) := by decide +kernel
theorem dX9_tellThing_244 : decode cX9_tellThing 244 = .ok (.new 65, 3) := by decide +kernel
theorem dX9_tellThing_247 : decode cX9_tellThing 247 = .ok (.dup, 1) := by decide +kernel
theorem dX9_tellThing_248 : decode cX9_tellThing 248 = .ok (.iload_n 1, 1) := by decide +kernel
theorem dX9_tellThing_249 : decode cX9_tellThing 249 = .ok (.aload_n 0, 1) := by decide +kernel
theorem dX9_tellThing_250 : decode cX9_tellThing 250 = .ok (.getfield 25, 3) := by decide +kernel
theorem dX9_tellThing_253 : decode cX9_tellThing 253 = .ok (.iload_n 2, 1) := by decide +kernel
theorem dX9_tellThing_254 : decode cX9_tellThing 254 = .ok (.iload_n 3, 1) := by decide +kernel
theorem dX9_tellThing_255 : decode cX9_tellThing 255 = .ok (.iload 4, 2) := by decide +kernel
theorem dX9_tellThing_257 : decode cX9_tellThing 257 = .ok (.invokespecial 67, 3) := by decide +kernel
theorem dX9_tellThing_260 : decode cX9_tellThing 260 = .ok (.aastore, 1) := by decide +kernel
theorem dX9_tellThing_261 : decode cX9_tellThing 261 = .ok (.aload_n 0, 1) := by decide +kernel
theorem dX9_tellThing_262 : decode cX9_tellThing 262 = .ok (.dup, 1) := by decide +kernel
theorem dX9_tellThing_263 : decode cX9_tellThing 263 = .ok (.getfield 25, 3) := by decide +kernel
theorem dX9_tellThing_266 : decode cX9_tellThing 266 = .ok (.iconst 1, 1) := by decide +kernel
theorem dX9_tellThing_267 : decode cX9_tellThing 267 = .ok (.iadd, 1) := by decide +kernel
theorem dX9_tellThing_268 : decode cX9_tellThing 268 = .ok (.putfield 25, 3) := by decide +kernel
theorem dX9_tellThing_271 : decode cX9_tellThing 271 = .ok (.iconst 1, 1) := by decide +kernel
theorem dX9_tellThing_272 : decode cX9_tellThing 272 = .ok (.ireturn, 1) := by decide +kernel
theorem dX9_reckonFar_0 : decode cX9_reckonFar 0 = .ok (.iconst 0, 1) := by decide +kernel
theorem dX9_reckonFar_1 : decode cX9_reckonFar 1 = .ok (.istore_n 1, 1) := by decide +kernel
theorem dX9_reckonFar_2 : decode cX9_reckonFar 2 = .ok (.iload_n 1, 1) := by decide +kernel
theorem dX9_reckonFar_3 : decode cX9_reckonFar 3 = .ok (.bipush 64, 2) := by decide +kernel
theorem dX9_reckonFar_5 : decode cX9_reckonFar 5 = .ok (.if_icmp .ge 35, 3) := by decide +kernel
theorem dX9_reckonFar_8 : decode cX9_reckonFar 8 = .ok (.aload_n 0, 1) := by decide +kernel
theorem dX9_reckonFar_9 : decode cX9_reckonFar 9 = .ok (.getfield 22, 3) := by decide +kernel
theorem dX9_reckonFar_12 : decode cX9_reckonFar 12 = .ok (.iload_n 1, 1) := by decide +kernel
theorem dX9_reckonFar_13 : decode cX9_reckonFar 13 = .ok (.aload_n 0, 1) := by decide +kernel
theorem dX9_reckonFar_14 : decode cX9_reckonFar 14 = .ok (.getfield 18, 3) := by decide +kernel
theorem dX9_reckonFar_17 : decode cX9_reckonFar 17 = .ok (.iload_n 1, 1) := by decide +kernel
theorem dX9_reckonFar_18 : decode cX9_reckonFar 18 = .ok (.iaload, 1) := by decide +kernel
theorem dX9_reckonFar_19 : decode cX9_reckonFar 19 = .ok (.ifCond .le 12, 3) := by decide +kernel
theorem dX9_reckonFar_22 : decode cX9_reckonFar 22 = .ok (.aload_n 0, 1) := by decide +kernel
theorem dX9_reckonFar_23 : decode cX9_reckonFar 23 = .ok (.getfield 18, 3) := by decide +kernel
theorem dX9_reckonFar_26 : decode cX9_reckonFar 26 = .ok (.iload_n 1, 1) := by decide +kernel
theorem dX9_reckonFar_27 : decode cX9_reckonFar 27 = .ok (.iaload, 1) := by decide +kernel
theorem dX9_reckonFar_28 : decode cX9_reckonFar 28 = .ok (.goto 5, 3) := by decide +kernel
theorem dX9_reckonFar_31 : decode cX9_reckonFar 31 = .ok (.ldc 115, 2) := by decide +kernel
theorem dX9_reckonFar_33 : decode cX9_reckonFar 33 = .ok (.iastore, 1) := by decide +kernel
theorem dX9_reckonFar_34 : decode cX9_reckonFar 34 = .ok (.iinc 1 1, 3) := by decide +kernel
theorem dX9_reckonFar_37 : decode cX9_reckonFar 37 = .ok (.goto (-35), 3) := by decide +kernel
theorem dX9_reckonFar_40 : decode cX9_reckonFar 40 = .ok (.iconst 0, 1) := by decide +kernel
theorem dX9_reckonFar_41 : decode cX9_reckonFar 41 = .ok (.istore_n 1, 1) := by decide +kernel
theorem dX9_reckonFar_42 : decode cX9_reckonFar 42 = .ok (.iload_n 1, 1) := by decide +kernel
theorem dX9_reckonFar_43 : decode cX9_reckonFar 43 = .ok (.bipush 8, 2) := by decide +kernel
theorem dX9_reckonFar_45 : decode cX9_reckonFar 45 = .ok (.if_icmp .ge 21, 3) := by decide +kernel
theorem dX9_reckonFar_48 : decode cX9_reckonFar 48 = .ok (.aload_n 0, 1) := by decide +kernel
theorem dX9_reckonFar_49 : decode cX9_reckonFar 49 = .ok (.getfield 22, 3) := by decide +kernel
theorem dX9_reckonFar_52 : decode cX9_reckonFar 52 = .ok (.iload_n 1, 1) := by decide +kernel
theorem dX9_reckonFar_53 : decode cX9_reckonFar 53 = .ok (.bipush 8, 2) := by decide +kernel
theorem dX9_reckonFar_55 : decode cX9_reckonFar 55 = .ok (.imul, 1) := by decide +kernel
theorem dX9_reckonFar_56 : decode cX9_reckonFar 56 = .ok (.iload_n 1, 1) := by decide +kernel
theorem dX9_reckonFar_57 : decode cX9_reckonFar 57 = .ok (.iadd, 1) := by decide +kernel
theorem dX9_reckonFar_58 : decode cX9_reckonFar 58 = .ok (.iconst 0, 1) := by decide +kernel
theorem dX9_reckonFar_59 : decode cX9_reckonFar 59 = .ok (.iastore, 1) := by decide +kernel
theorem dX9_reckonFar_60 : decode cX9_reckonFar 60 = .ok (.iinc 1 1, 3) := by decide +kernel
theorem dX9_reckonFar_63 : decode cX9_reckonFar 63 = .ok (.goto (-21), 3) := by decide +kernel
theorem dX9_reckonFar_66 : decode cX9_reckonFar 66 = .ok (.iconst 0, 1) := by decide +kernel
theorem dX9_reckonFar_67 : decode cX9_reckonFar 67 = .ok (.istore_n 1, 1) := by decide +kernel
theorem dX9_reckonFar_68 : decode cX9_reckonFar 68 = .ok (.iload_n 1, 1) := by decide +kernel
theorem dX9_reckonFar_69 : decode cX9_reckonFar 69 = .ok (.bipush 8, 2) := by decide +kernel
theorem dX9_reckonFar_71 : decode cX9_reckonFar 71 = .ok (.if_icmp .ge 76, 3) := by decide +kernel
theorem dX9_reckonFar_74 : decode cX9_reckonFar 74 = .ok (.iconst 0, 1) := by decide +kernel
theorem dX9_reckonFar_75 : decode cX9_reckonFar 75 = .ok (.istore_n 2, 1) := by decide +kernel
theorem dX9_reckonFar_76 : decode cX9_reckonFar 76 = .ok (.iload_n 2, 1) := by decide +kernel
theorem dX9_reckonFar_77 : decode cX9_reckonFar 77 = .ok (.bipush 8, 2) := by decide +kernel
theorem dX9_reckonFar_79 : decode cX9_reckonFar 79 = .ok (.if_icmp .ge 62, 3) := by decide +kernel
theorem dX9_reckonFar_82 : decode cX9_reckonFar 82 = .ok (.iconst 0, 1) := by decide +kernel
theorem dX9_reckonFar_83 : decode cX9_reckonFar 83 = .ok (.istore_n 3, 1) := by decide +kernel
theorem dX9_reckonFar_84 : decode cX9_reckonFar 84 = .ok (.iload_n 3, 1) := by decide +kernel
theorem dX9_reckonFar_85 : decode cX9_reckonFar 85 = .ok (.bipush 8, 2) := by decide +kernel
theorem dX9_reckonFar_87 : decode cX9_reckonFar 87 = .ok (.if_icmp .ge 48, 3) := by decide +kernel
theorem dX9_reckonFar_90 : decode cX9_reckonFar 90 = .ok (.aload_n 0, 1) := by decide +kernel
theorem dX9_reckonFar_91 : decode cX9_reckonFar 91 = .ok (.iload_n 2, 1) := by decide +kernel
theorem dX9_reckonFar_92 : decode cX9_reckonFar 92 = .ok (.iload_n 1, 1) := by decide +kernel
theorem dX9_reckonFar_93 : decode cX9_reckonFar 93 = .ok (.invokevirtual 116, 3) := by decide +kernel
theorem dX9_reckonFar_96 : decode cX9_reckonFar 96 = .ok (.aload_n 0, 1) := by decide +kernel
theorem dX9_reckonFar_97 : decode cX9_reckonFar 97 = .ok (.iload_n 1, 1) := by decide +kernel
theorem dX9_reckonFar_98 : decode cX9_reckonFar 98 = .ok (.iload_n 3, 1) := by decide +kernel
theorem dX9_reckonFar_99 : decode cX9_reckonFar 99 = .ok (.invokevirtual 116, 3) := by decide +kernel
theorem dX9_reckonFar_102 : decode cX9_reckonFar 102 = .ok (.iadd, 1) := by decide +kernel
theorem dX9_reckonFar_103 : decode cX9_reckonFar 103 = .ok (.istore 4, 2) := by decide +kernel
theorem dX9_reckonFar_105 : decode cX9_reckonFar 105 = .ok (.iload 4, 2) := by decide +kernel
theorem dX9_reckonFar_107 : decode cX9_reckonFar 107 = .ok (.aload_n 0, 1) := by decide +kernel
theorem dX9_reckonFar_108 : decode cX9_reckonFar 108 = .ok (.iload_n 2, 1) := by decide +kernel
theorem dX9_reckonFar_109 : decode cX9_reckonFar 109 = .ok (.iload_n 3, 1) := by decide +kernel
theorem dX9_reckonFar_110 : decode cX9_reckonFar 110 = .ok (.invokevirtual 116, 3) := by decide +kernel
theorem dX9_reckonFar_113 : decode cX9_reckonFar 113 = .ok (.if_icmp .ge 16, 3) := by decide +kernel
theorem dX9_reckonFar_116 : decode cX9_reckonFar 116 = .ok (.aload_n 0, 1) := by decide +kernel
theorem dX9_reckonFar_117 : decode cX9_reckonFar 117 = .ok (.getfield 22, 3) := by decide +kernel
theorem dX9_reckonFar_120 : decode cX9_reckonFar 120 = .ok (.iload_n 2, 1) := by decide +kernel
theorem dX9_reckonFar_121 : decode cX9_reckonFar 121 = .ok (.bipush 8, 2) := by decide +kernel
theorem dX9_reckonFar_123 : decode cX9_reckonFar 123 = .ok (.imul, 1) := by decide +kernel
theorem dX9_reckonFar_124 : decode cX9_reckonFar 124 = .ok (.iload_n 3, 1) := by decide +kernel
theorem dX9_reckonFar_125 : decode cX9_reckonFar 125 = .ok (.iadd, 1) := by decide +kernel
theorem dX9_reckonFar_126 : decode cX9_reckonFar 126 = .ok (.iload 4, 2) := by decide +kernel
theorem dX9_reckonFar_128 : decode cX9_reckonFar 128 = .ok (.iastore, 1) := by decide +kernel
theorem dX9_reckonFar_129 : decode cX9_reckonFar 129 = .ok (.iinc 3 1, 3) := by decide +kernel
theorem dX9_reckonFar_132 : decode cX9_reckonFar 132 = .ok (.goto (-48), 3) := by decide +kernel
theorem dX9_reckonFar_135 : decode cX9_reckonFar 135 = .ok (.iinc 2 1, 3) := by decide +kernel
theorem dX9_reckonFar_138 : decode cX9_reckonFar 138 = .ok (.goto (-62), 3) := by decide +kernel
theorem dX9_reckonFar_141 : decode cX9_reckonFar 141 = .ok (.iinc 1 1, 3) := by decide +kernel
theorem dX9_reckonFar_144 : decode cX9_reckonFar 144 = .ok (.goto (-76), 3) := by decide +kernel
theorem dX9_reckonFar_147 : decode cX9_reckonFar 147 = .ok (.return_, 1) := by decide +kernel
theorem dX9_placesNeeded_0 : decode cX9_placesNeeded 0 = .ok (.aload_n 0, 1) := by decide +kernel
theorem dX9_placesNeeded_1 : decode cX9_placesNeeded 1 = .ok (.getfield 34, 3) := by decide +kernel
theorem dX9_placesNeeded_4 : decode cX9_placesNeeded 4 = .ok (.iconst 3, 1) := by decide +kernel
