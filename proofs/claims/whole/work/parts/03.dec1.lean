theorem dX0_init_0 : decode cX0_init 0 = .ok (.aload_n 0, 1) := by decide +kernel
theorem dX0_init_1 : decode cX0_init 1 = .ok (.invokespecial 3, 3) := by decide +kernel
theorem dX0_init_4 : decode cX0_init 4 = .ok (.aload_n 0, 1) := by decide +kernel
theorem dX0_init_5 : decode cX0_init 5 = .ok (.new 9, 3) := by decide +kernel
theorem dX0_init_8 : decode cX0_init 8 = .ok (.dup, 1) := by decide +kernel
theorem dX0_init_9 : decode cX0_init 9 = .ok (.invokespecial 11, 3) := by decide +kernel
theorem dX0_init_12 : decode cX0_init 12 = .ok (.putfield 12, 3) := by decide +kernel
theorem dX0_init_15 : decode cX0_init 15 = .ok (.aload_n 0, 1) := by decide +kernel
theorem dX0_init_16 : decode cX0_init 16 = .ok (.iconst 4, 1) := by decide +kernel
theorem dX0_init_17 : decode cX0_init 17 = .ok (.anewarray 18, 3) := by decide +kernel
theorem dX0_init_20 : decode cX0_init 20 = .ok (.putfield 20, 3) := by decide +kernel
theorem dX0_init_23 : decode cX0_init 23 = .ok (.aload_n 0, 1) := by decide +kernel
theorem dX0_init_24 : decode cX0_init 24 = .ok (.bipush 8, 2) := by decide +kernel
theorem dX0_init_26 : decode cX0_init 26 = .ok (.newarray .boolean, 2) := by decide +kernel
theorem dX0_init_28 : decode cX0_init 28 = .ok (.putfield 24, 3) := by decide +kernel
theorem dX0_init_31 : decode cX0_init 31 = .ok (.aload_n 0, 1) := by decide +kernel
theorem dX0_init_32 : decode cX0_init 32 = .ok (.bipush 8, 2) := by decide +kernel
theorem dX0_init_34 : decode cX0_init 34 = .ok (.newarray .int, 2) := by decide +kernel
theorem dX0_init_36 : decode cX0_init 36 = .ok (.putfield 28, 3) := by decide +kernel
theorem dX0_init_39 : decode cX0_init 39 = .ok (.aload_n 0, 1) := by decide +kernel
theorem dX0_init_40 : decode cX0_init 40 = .ok (.iconst (-1), 1) := by decide +kernel
theorem dX0_init_41 : decode cX0_init 41 = .ok (.putfield 32, 3) := by decide +kernel
theorem dX0_init_44 : decode cX0_init 44 = .ok (.aload_n 0, 1) := by decide +kernel
theorem dX0_init_45 : decode cX0_init 45 = .ok (.iconst (-1), 1) := by decide +kernel
theorem dX0_init_46 : decode cX0_init 46 = .ok (.putfield 36, 3) := by decide +kernel
theorem dX0_init_49 : decode cX0_init 49 = .ok (.iconst 0, 1) := by decide +kernel
theorem dX0_init_50 : decode cX0_init 50 = .ok (.istore_n 1, 1) := by decide +kernel
theorem dX0_init_51 : decode cX0_init 51 = .ok (.iload_n 1, 1) := by decide +kernel
theorem dX0_init_52 : decode cX0_init 52 = .ok (.iconst 4, 1) := by decide +kernel
theorem dX0_init_53 : decode cX0_init 53 = .ok (.if_icmp .ge 22, 3) := by decide +kernel
theorem dX0_init_56 : decode cX0_init 56 = .ok (.aload_n 0, 1) := by decide +kernel
theorem dX0_init_57 : decode cX0_init 57 = .ok (.getfield 20, 3) := by decide +kernel
theorem dX0_init_60 : decode cX0_init 60 = .ok (.iload_n 1, 1) := by decide +kernel
theorem dX0_init_61 : decode cX0_init 61 = .ok (.new 18, 3) := by decide +kernel
theorem dX0_init_64 : decode cX0_init 64 = .ok (.dup, 1) := by decide +kernel
theorem dX0_init_65 : decode cX0_init 65 = .ok (.invokespecial 39, 3) := by decide +kernel
theorem dX0_init_68 : decode cX0_init 68 = .ok (.aastore, 1) := by decide +kernel
theorem dX0_init_69 : decode cX0_init 69 = .ok (.iinc 1 1, 3) := by decide +kernel
theorem dX0_init_72 : decode cX0_init 72 = .ok (.goto (-21), 3) := by decide +kernel
theorem dX0_init_75 : decode cX0_init 75 = .ok (.return_, 1) := by decide +kernel
theorem dX0_isBlind_0 : decode cX0_isBlind 0 = .ok (.aload_n 0, 1) := by decide +kernel
theorem dX0_isBlind_1 : decode cX0_isBlind 1 = .ok (.getfield 40, 3) := by decide +kernel
theorem dX0_isBlind_4 : decode cX0_isBlind 4 = .ok (.ifCond .ne 7, 3) := by decide +kernel
theorem dX0_isBlind_7 : decode cX0_isBlind 7 = .ok (.iconst 1, 1) := by decide +kernel
theorem dX0_isBlind_8 : decode cX0_isBlind 8 = .ok (.goto 4, 3) := by decide +kernel
theorem dX0_isBlind_11 : decode cX0_isBlind 11 = .ok (.iconst 0, 1) := by decide +kernel
theorem dX0_isBlind_12 : decode cX0_isBlind 12 = .ok (.ireturn, 1) := by decide +kernel
theorem dX0_isReady_0 : decode cX0_isReady 0 = .ok (.aload_n 0, 1) := by decide +kernel
theorem dX0_isReady_1 : decode cX0_isReady 1 = .ok (.getfield 43, 3) := by decide +kernel
theorem dX0_isReady_4 : decode cX0_isReady 4 = .ok (.ifCond .ne 21, 3) := by decide +kernel
theorem dX0_isReady_7 : decode cX0_isReady 7 = .ok (.aload_n 0, 1) := by decide +kernel
theorem dX0_isReady_8 : decode cX0_isReady 8 = .ok (.invokevirtual 47, 3) := by decide +kernel
theorem dX0_isReady_11 : decode cX0_isReady 11 = .ok (.ifCond .ne 10, 3) := by decide +kernel
theorem dX0_isReady_14 : decode cX0_isReady 14 = .ok (.aload_n 0, 1) := by decide +kernel
theorem dX0_isReady_15 : decode cX0_isReady 15 = .ok (.getfield 51, 3) := by decide +kernel
theorem dX0_isReady_18 : decode cX0_isReady 18 = .ok (.ifCond .eq 7, 3) := by decide +kernel
theorem dX0_isReady_21 : decode cX0_isReady 21 = .ok (.iconst 1, 1) := by decide +kernel
theorem dX0_isReady_22 : decode cX0_isReady 22 = .ok (.goto 4, 3) := by decide +kernel
theorem dX0_isReady_25 : decode cX0_isReady 25 = .ok (.iconst 0, 1) := by decide +kernel
theorem dX0_isReady_26 : decode cX0_isReady 26 = .ok (.ireturn, 1) := by decide +kernel
theorem dX0_isReadIn_0 : decode cX0_isReadIn 0 = .ok (.aload_n 0, 1) := by decide +kernel
theorem dX0_isReadIn_1 : decode cX0_isReadIn 1 = .ok (.getfield 43, 3) := by decide +kernel
theorem dX0_isReadIn_4 : decode cX0_isReadIn 4 = .ok (.ifCond .eq 18, 3) := by decide +kernel
theorem dX0_isReadIn_7 : decode cX0_isReadIn 7 = .ok (.iload_n 1, 1) := by decide +kernel
theorem dX0_isReadIn_8 : decode cX0_isReadIn 8 = .ok (.ifCond .ne 10, 3) := by decide +kernel
theorem dX0_isReadIn_11 : decode cX0_isReadIn 11 = .ok (.aload_n 0, 1) := by decide +kernel
theorem dX0_isReadIn_12 : decode cX0_isReadIn 12 = .ok (.getfield 54, 3) := by decide +kernel
theorem dX0_isReadIn_15 : decode cX0_isReadIn 15 = .ok (.ifCond .ne 7, 3) := by decide +kernel
theorem dX0_isReadIn_18 : decode cX0_isReadIn 18 = .ok (.iconst 1, 1) := by decide +kernel
theorem dX0_isReadIn_19 : decode cX0_isReadIn 19 = .ok (.goto 4, 3) := by decide +kernel
theorem dX0_isReadIn_22 : decode cX0_isReadIn 22 = .ok (.iconst 0, 1) := by decide +kernel
theorem dX0_isReadIn_23 : decode cX0_isReadIn 23 = .ok (.ireturn, 1) := by decide +kernel
theorem dX0_state_0 : decode cX0_state 0 = .ok (.aload_n 0, 1) := by decide +kernel
theorem dX0_state_1 : decode cX0_state 1 = .ok (.getfield 43, 3) := by decide +kernel
theorem dX0_state_4 : decode cX0_state 4 = .ok (.ifCond .eq 5, 3) := by decide +kernel
theorem dX0_state_7 : decode cX0_state 7 = .ok (.iconst 3, 1) := by decide +kernel
theorem dX0_state_8 : decode cX0_state 8 = .ok (.ireturn, 1) := by decide +kernel
theorem dX0_state_9 : decode cX0_state 9 = .ok (.aload_n 0, 1) := by decide +kernel
theorem dX0_state_10 : decode cX0_state 10 = .ok (.getfield 51, 3) := by decide +kernel
theorem dX0_state_13 : decode cX0_state 13 = .ok (.ifCond .eq 5, 3) := by decide +kernel
theorem dX0_state_16 : decode cX0_state 16 = .ok (.iconst 2, 1) := by decide +kernel
theorem dX0_state_17 : decode cX0_state 17 = .ok (.ireturn, 1) := by decide +kernel
theorem dX0_state_18 : decode cX0_state 18 = .ok (.aload_n 0, 1) := by decide +kernel
theorem dX0_state_19 : decode cX0_state 19 = .ok (.getfield 32, 3) := by decide +kernel
theorem dX0_state_22 : decode cX0_state 22 = .ok (.iconst (-1), 1) := by decide +kernel
theorem dX0_state_23 : decode cX0_state 23 = .ok (.if_icmp .ne 7, 3) := by decide +kernel
theorem dX0_state_26 : decode cX0_state 26 = .ok (.iconst 0, 1) := by decide +kernel
theorem dX0_state_27 : decode cX0_state 27 = .ok (.goto 4, 3) := by decide +kernel
theorem dX0_state_30 : decode cX0_state 30 = .ok (.iconst 1, 1) := by decide +kernel
theorem dX0_state_31 : decode cX0_state 31 = .ok (.ireturn, 1) := by decide +kernel
theorem dX0_putToPress_0 : decode cX0_putToPress 0 = .ok (.aload_n 0, 1) := by decide +kernel
theorem dX0_putToPress_1 : decode cX0_putToPress 1 = .ok (.iconst 1, 1) := by decide +kernel
theorem dX0_putToPress_2 : decode cX0_putToPress 2 = .ok (.putfield 43, 3) := by decide +kernel
theorem dX0_putToPress_5 : decode cX0_putToPress 5 = .ok (.aload_n 1, 1) := by decide +kernel
theorem dX0_putToPress_6 : decode cX0_putToPress 6 = .ok (.iconst 0, 1) := by decide +kernel
theorem dX0_putToPress_7 : decode cX0_putToPress 7 = .ok (.aload_n 0, 1) := by decide +kernel
theorem dX0_putToPress_8 : decode cX0_putToPress 8 = .ok (.getfield 28, 3) := by decide +kernel
theorem dX0_putToPress_11 : decode cX0_putToPress 11 = .ok (.iconst 0, 1) := by decide +kernel
theorem dX0_putToPress_12 : decode cX0_putToPress 12 = .ok (.bipush 8, 2) := by decide +kernel
theorem dX0_putToPress_14 : decode cX0_putToPress 14 = .ok (.invokestatic 57, 3) := by decide +kernel
theorem dX0_putToPress_17 : decode cX0_putToPress 17 = .ok (.return_, 1) := by decide +kernel
theorem dX0_countReferences_0 : decode cX0_countReferences 0 = .ok (.iconst 0, 1) := by decide +kernel
theorem dX0_countReferences_1 : decode cX0_countReferences 1 = .ok (.istore_n 2, 1) := by decide +kernel
theorem dX0_countReferences_2 : decode cX0_countReferences 2 = .ok (.iconst 0, 1) := by decide +kernel
theorem dX0_countReferences_3 : decode cX0_countReferences 3 = .ok (.istore_n 3, 1) := by decide +kernel
theorem dX0_countReferences_4 : decode cX0_countReferences 4 = .ok (.iload_n 3, 1) := by decide +kernel
theorem dX0_countReferences_5 : decode cX0_countReferences 5 = .ok (.aload_n 0, 1) := by decide +kernel
theorem dX0_countReferences_6 : decode cX0_countReferences 6 = .ok (.getfield 63, 3) := by decide +kernel
theorem dX0_countReferences_9 : decode cX0_countReferences 9 = .ok (.if_icmp .ge 25, 3) := by decide +kernel
theorem dX0_countReferences_12 : decode cX0_countReferences 12 = .ok (.aload_n 0, 1) := by decide +kernel
theorem dX0_countReferences_13 : decode cX0_countReferences 13 = .ok (.getfield 20, 3) := by decide +kernel
theorem dX0_countReferences_16 : decode cX0_countReferences 16 = .ok (.iload_n 3, 1) := by decide +kernel
theorem dX0_countReferences_17 : decode cX0_countReferences 17 = .ok (.aaload, 1) := by decide +kernel
theorem dX0_countReferences_18 : decode cX0_countReferences 18 = .ok (.getfield 66, 3) := by decide +kernel
theorem dX0_countReferences_21 : decode cX0_countReferences 21 = .ok (.aload_n 1, 1) := by decide +kernel
theorem dX0_countReferences_22 : decode cX0_countReferences 22 = .ok (.if_acmp .ne 6, 3) := by decide +kernel
theorem dX0_countReferences_25 : decode cX0_countReferences 25 = .ok (.iinc 2 1, 3) := by decide +kernel
theorem dX0_countReferences_28 : decode cX0_countReferences 28 = .ok (.iinc 3 1, 3) := by decide +kernel
theorem dX0_countReferences_31 : decode cX0_countReferences 31 = .ok (.goto (-27), 3) := by decide +kernel
theorem dX0_countReferences_34 : decode cX0_countReferences 34 = .ok (.iload_n 2, 1) := by decide +kernel
theorem dX0_countReferences_35 : decode cX0_countReferences 35 = .ok (.ireturn, 1) := by decide +kernel
theorem dX1_init_0 : decode cX1_init 0 = .ok (.aload_n 0, 1) := by decide +kernel
theorem dX1_init_1 : decode cX1_init 1 = .ok (.invokespecial 3, 3) := by decide +kernel
theorem dX1_init_4 : decode cX1_init 4 = .ok (.aload_n 0, 1) := by decide +kernel
theorem dX1_init_5 : decode cX1_init 5 = .ok (.bipush 24, 2) := by decide +kernel
theorem dX1_init_7 : decode cX1_init 7 = .ok (.newarray .int, 2) := by decide +kernel
theorem dX1_init_9 : decode cX1_init 9 = .ok (.putfield 9, 3) := by decide +kernel
theorem dX1_init_12 : decode cX1_init 12 = .ok (.aload_n 0, 1) := by decide +kernel
theorem dX1_init_13 : decode cX1_init 13 = .ok (.bipush 6, 2) := by decide +kernel
theorem dX1_init_15 : decode cX1_init 15 = .ok (.newarray .boolean, 2) := by decide +kernel
theorem dX1_init_17 : decode cX1_init 17 = .ok (.putfield 15, 3) := by decide +kernel
theorem dX1_init_20 : decode cX1_init 20 = .ok (.aload_n 0, 1) := by decide +kernel
theorem dX1_init_21 : decode cX1_init 21 = .ok (.iconst 1, 1) := by decide +kernel
theorem dX1_init_22 : decode cX1_init 22 = .ok (.putfield 19, 3) := by decide +kernel
theorem dX1_init_25 : decode cX1_init 25 = .ok (.return_, 1) := by decide +kernel
theorem dX1_addToWrite_0 : decode cX1_addToWrite 0 = .ok (.aload_n 0, 1) := by decide +kernel
theorem dX1_addToWrite_1 : decode cX1_addToWrite 1 = .ok (.getfield 23, 3) := by decide +kernel
theorem dX1_addToWrite_4 : decode cX1_addToWrite 4 = .ok (.bipush 24, 2) := by decide +kernel
theorem dX1_addToWrite_6 : decode cX1_addToWrite 6 = .ok (.if_icmp .ge 23, 3) := by decide +kernel
theorem dX1_addToWrite_9 : decode cX1_addToWrite 9 = .ok (.aload_n 0, 1) := by decide +kernel
theorem dX1_addToWrite_10 : decode cX1_addToWrite 10 = .ok (.getfield 9, 3) := by decide +kernel
theorem dX1_addToWrite_13 : decode cX1_addToWrite 13 = .ok (.aload_n 0, 1) := by decide +kernel
theorem dX1_addToWrite_14 : decode cX1_addToWrite 14 = .ok (.getfield 23, 3) := by decide +kernel
theorem dX1_addToWrite_17 : decode cX1_addToWrite 17 = .ok (.iload_n 1, 1) := by decide +kernel
theorem dX1_addToWrite_18 : decode cX1_addToWrite 18 = .ok (.iastore, 1) := by decide +kernel
theorem dX1_addToWrite_19 : decode cX1_addToWrite 19 = .ok (.aload_n 0, 1) := by decide +kernel
theorem dX1_addToWrite_20 : decode cX1_addToWrite 20 = .ok (.dup, 1) := by decide +kernel
theorem dX1_addToWrite_21 : decode cX1_addToWrite 21 = .ok (.getfield 23, 3) := by decide +kernel
theorem dX1_addToWrite_24 : decode cX1_addToWrite 24 = .ok (.iconst 1, 1) := by decide +kernel
theorem dX1_addToWrite_25 : decode cX1_addToWrite 25 = .ok (.iadd, 1) := by decide +kernel
theorem dX1_addToWrite_26 : decode cX1_addToWrite 26 = .ok (.putfield 23, 3) := by decide +kernel
theorem dX1_addToWrite_29 : decode cX1_addToWrite 29 = .ok (.return_, 1) := by decide +kernel
theorem dX1_removeFirst_0 : decode cX1_removeFirst 0 = .ok (.aload_n 0, 1) := by decide +kernel
theorem dX1_removeFirst_1 : decode cX1_removeFirst 1 = .ok (.getfield 23, 3) := by decide +kernel
theorem dX1_removeFirst_4 : decode cX1_removeFirst 4 = .ok (.ifCond .le 30, 3) := by decide +kernel
theorem dX1_removeFirst_7 : decode cX1_removeFirst 7 = .ok (.aload_n 0, 1) := by decide +kernel
theorem dX1_removeFirst_8 : decode cX1_removeFirst 8 = .ok (.dup, 1) := by decide +kernel
theorem dX1_removeFirst_9 : decode cX1_removeFirst 9 = .ok (.getfield 23, 3) := by decide +kernel
theorem dX1_removeFirst_12 : decode cX1_removeFirst 12 = .ok (.iconst 1, 1) := by decide +kernel
theorem dX1_removeFirst_13 : decode cX1_removeFirst 13 = .ok (.isub, 1) := by decide +kernel
theorem dX1_removeFirst_14 : decode cX1_removeFirst 14 = .ok (.putfield 23, 3) := by decide +kernel
theorem dX1_removeFirst_17 : decode cX1_removeFirst 17 = .ok (.aload_n 0, 1) := by decide +kernel
theorem dX1_removeFirst_18 : decode cX1_removeFirst 18 = .ok (.getfield 9, 3) := by decide +kernel
theorem dX1_removeFirst_21 : decode cX1_removeFirst 21 = .ok (.iconst 1, 1) := by decide +kernel
theorem dX1_removeFirst_22 : decode cX1_removeFirst 22 = .ok (.aload_n 0, 1) := by decide +kernel
theorem dX1_removeFirst_23 : decode cX1_removeFirst 23 = .ok (.getfield 9, 3) := by decide +kernel
theorem dX1_removeFirst_26 : decode cX1_removeFirst 26 = .ok (.iconst 0, 1) := by decide +kernel
theorem dX1_removeFirst_27 : decode cX1_removeFirst 27 = .ok (.aload_n 0, 1) := by decide +kernel
theorem dX1_removeFirst_28 : decode cX1_removeFirst 28 = .ok (.getfield 23, 3) := by decide +kernel
theorem dX1_removeFirst_31 : decode cX1_removeFirst 31 = .ok (.invokestatic 26, 3) := by decide +kernel
theorem dX1_removeFirst_34 : decode cX1_removeFirst 34 = .ok (.return_, 1) := by decide +kernel
theorem dX1_monthsFor_0 : decode cX1_monthsFor 0 = .ok (.iconst 1, 1) := by decide +kernel
theorem dX1_monthsFor_1 : decode cX1_monthsFor 1 = .ok (.iload_n 1, 1) := by decide +kernel
theorem dX1_monthsFor_2 : decode cX1_monthsFor 2 = .ok (.aload_n 0, 1) := by decide +kernel
theorem dX1_monthsFor_3 : decode cX1_monthsFor 3 = .ok (.getfield 19, 3) := by decide +kernel
theorem dX1_monthsFor_6 : decode cX1_monthsFor 6 = .ok (.iadd, 1) := by decide +kernel
theorem dX1_monthsFor_7 : decode cX1_monthsFor 7 = .ok (.iconst 1, 1) := by decide +kernel
theorem dX1_monthsFor_8 : decode cX1_monthsFor 8 = .ok (.isub, 1) := by decide +kernel
theorem dX1_monthsFor_9 : decode cX1_monthsFor 9 = .ok (.aload_n 0, 1) := by decide +kernel
theorem dX1_monthsFor_10 : decode cX1_monthsFor 10 = .ok (.getfield 19, 3) := by decide +kernel
theorem dX1_monthsFor_13 : decode cX1_monthsFor 13 = .ok (.idiv, 1) := by decide +kernel
theorem dX1_monthsFor_14 : decode cX1_monthsFor 14 = .ok (.invokestatic 32, 3) := by decide +kernel
theorem dX1_monthsFor_17 : decode cX1_monthsFor 17 = .ok (.ireturn, 1) := by decide +kernel
theorem dX3_init_0 : decode cX3_init 0 = .ok (.aload_n 0, 1) := by decide +kernel
theorem dX3_init_1 : decode cX3_init 1 = .ok (.invokespecial 3, 3) := by decide +kernel
theorem dX3_init_4 : decode cX3_init 4 = .ok (.aload_n 0, 1) := by decide +kernel
theorem dX3_init_5 : decode cX3_init 5 = .ok (.bipush 8, 2) := by decide +kernel
theorem dX3_init_7 : decode cX3_init 7 = .ok (.newarray .char, 2) := by decide +kernel
theorem dX3_init_9 : decode cX3_init 9 = .ok (.putfield 9, 3) := by decide +kernel
theorem dX3_init_12 : decode cX3_init 12 = .ok (.aload_n 0, 1) := by decide +kernel
theorem dX3_init_13 : decode cX3_init 13 = .ok (.bipush 8, 2) := by decide +kernel
theorem dX3_init_15 : decode cX3_init 15 = .ok (.newarray .char, 2) := by decide +kernel
theorem dX3_init_17 : decode cX3_init 17 = .ok (.putfield 15, 3) := by decide +kernel
theorem dX3_init_20 : decode cX3_init 20 = .ok (.return_, 1) := by decide +kernel
theorem dX3_add_0 : decode cX3_add 0 = .ok (.aload_n 0, 1) := by decide +kernel
theorem dX3_add_1 : decode cX3_add 1 = .ok (.getfield 18, 3) := by decide +kernel
theorem dX3_add_4 : decode cX3_add 4 = .ok (.bipush 8, 2) := by decide +kernel
theorem dX3_add_6 : decode cX3_add 6 = .ok (.if_icmp .ge 35, 3) := by decide +kernel
theorem dX3_add_9 : decode cX3_add 9 = .ok (.aload_n 0, 1) := by decide +kernel
theorem dX3_add_10 : decode cX3_add 10 = .ok (.getfield 9, 3) := by decide +kernel
theorem dX3_add_13 : decode cX3_add 13 = .ok (.aload_n 0, 1) := by decide +kernel
theorem dX3_add_14 : decode cX3_add 14 = .ok (.getfield 18, 3) := by decide +kernel
theorem dX3_add_17 : decode cX3_add 17 = .ok (.iload_n 1, 1) := by decide +kernel
theorem dX3_add_18 : decode cX3_add 18 = .ok (.invokestatic 22, 3) := by decide +kernel
theorem dX3_add_21 : decode cX3_add 21 = .ok (.ifCond .eq 8, 3) := by decide +kernel
theorem dX3_add_24 : decode cX3_add 24 = .ok (.bipush 32, 2) := by decide +kernel
theorem dX3_add_26 : decode cX3_add 26 = .ok (.goto 4, 3) := by decide +kernel
theorem dX3_add_29 : decode cX3_add 29 = .ok (.iload_n 1, 1) := by decide +kernel
theorem dX3_add_30 : decode cX3_add 30 = .ok (.castore, 1) := by decide +kernel
theorem dX3_add_31 : decode cX3_add 31 = .ok (.aload_n 0, 1) := by decide +kernel
theorem dX3_add_32 : decode cX3_add 32 = .ok (.dup, 1) := by decide +kernel
theorem dX3_add_33 : decode cX3_add 33 = .ok (.getfield 18, 3) := by decide +kernel
theorem dX3_add_36 : decode cX3_add 36 = .ok (.iconst 1, 1) := by decide +kernel
theorem dX3_add_37 : decode cX3_add 37 = .ok (.iadd, 1) := by decide +kernel
theorem dX3_add_38 : decode cX3_add 38 = .ok (.putfield 18, 3) := by decide +kernel
theorem dX3_add_41 : decode cX3_add 41 = .ok (.iload_n 1, 1) := by decide +kernel
theorem dX3_add_42 : decode cX3_add 42 = .ok (.invokestatic 26, 3) := by decide +kernel
theorem dX3_add_45 : decode cX3_add 45 = .ok (.ifCond .eq 32, 3) := by decide +kernel
theorem dX3_add_48 : decode cX3_add 48 = .ok (.aload_n 0, 1) := by decide +kernel
theorem dX3_add_49 : decode cX3_add 49 = .ok (.getfield 29, 3) := by decide +kernel
theorem dX3_add_52 : decode cX3_add 52 = .ok (.bipush 8, 2) := by decide +kernel
theorem dX3_add_54 : decode cX3_add 54 = .ok (.if_icmp .ge 23, 3) := by decide +kernel
theorem dX3_add_57 : decode cX3_add 57 = .ok (.aload_n 0, 1) := by decide +kernel
theorem dX3_add_58 : decode cX3_add 58 = .ok (.getfield 15, 3) := by decide +kernel
theorem dX3_add_61 : decode cX3_add 61 = .ok (.aload_n 0, 1) := by decide +kernel
theorem dX3_add_62 : decode cX3_add 62 = .ok (.getfield 29, 3) := by decide +kernel
theorem dX3_add_65 : decode cX3_add 65 = .ok (.iload_n 1, 1) := by decide +kernel
theorem dX3_add_66 : decode cX3_add 66 = .ok (.castore, 1) := by decide +kernel
theorem dX3_add_67 : decode cX3_add 67 = .ok (.aload_n 0, 1) := by decide +kernel
theorem dX3_add_68 : decode cX3_add 68 = .ok (.dup, 1) := by decide +kernel
theorem dX3_add_69 : decode cX3_add 69 = .ok (.getfield 29, 3) := by decide +kernel
theorem dX3_add_72 : decode cX3_add 72 = .ok (.iconst 1, 1) := by decide +kernel
theorem dX3_add_73 : decode cX3_add 73 = .ok (.iadd, 1) := by decide +kernel
theorem dX3_add_74 : decode cX3_add 74 = .ok (.putfield 29, 3) := by decide +kernel
theorem dX3_add_77 : decode cX3_add 77 = .ok (.return_, 1) := by decide +kernel
theorem dX3_clear_0 : decode cX3_clear 0 = .ok (.aload_n 0, 1) := by decide +kernel
theorem dX3_clear_1 : decode cX3_clear 1 = .ok (.iconst 0, 1) := by decide +kernel
theorem dX3_clear_2 : decode cX3_clear 2 = .ok (.putfield 18, 3) := by decide +kernel
theorem dX3_clear_5 : decode cX3_clear 5 = .ok (.aload_n 0, 1) := by decide +kernel
theorem dX3_clear_6 : decode cX3_clear 6 = .ok (.iconst 0, 1) := by decide +kernel
theorem dX3_clear_7 : decode cX3_clear 7 = .ok (.putfield 29, 3) := by decide +kernel
theorem dX3_clear_10 : decode cX3_clear 10 = .ok (.return_, 1) := by decide +kernel
theorem dX3_take_0 : decode cX3_take 0 = .ok (.aload_n 1, 1) := by decide +kernel
theorem dX3_take_1 : decode cX3_take 1 = .ok (.getfield 9, 3) := by decide +kernel
theorem dX3_take_4 : decode cX3_take 4 = .ok (.iconst 0, 1) := by decide +kernel
theorem dX3_take_5 : decode cX3_take 5 = .ok (.aload_n 0, 1) := by decide +kernel
theorem dX3_take_6 : decode cX3_take 6 = .ok (.getfield 9, 3) := by decide +kernel
theorem dX3_take_9 : decode cX3_take 9 = .ok (.iconst 0, 1) := by decide +kernel
theorem dX3_take_10 : decode cX3_take 10 = .ok (.bipush 8, 2) := by decide +kernel
theorem dX3_take_12 : decode cX3_take 12 = .ok (.invokestatic 32, 3) := by decide +kernel
theorem dX3_take_15 : decode cX3_take 15 = .ok (.aload_n 1, 1) := by decide +kernel
theorem dX3_take_16 : decode cX3_take 16 = .ok (.getfield 15, 3) := by decide +kernel
theorem dX3_take_19 : decode cX3_take 19 = .ok (.iconst 0, 1) := by decide +kernel
theorem dX3_take_20 : decode cX3_take 20 = .ok (.aload_n 0, 1) := by decide +kernel
theorem dX3_take_21 : decode cX3_take 21 = .ok (.getfield 15, 3) := by decide +kernel
theorem dX3_take_24 : decode cX3_take 24 = .ok (.iconst 0, 1) := by decide +kernel
theorem dX3_take_25 : decode cX3_take 25 = .ok (.bipush 8, 2) := by decide +kernel
theorem dX3_take_27 : decode cX3_take 27 = .ok (.invokestatic 32, 3) := by decide +kernel
theorem dX3_take_30 : decode cX3_take 30 = .ok (.aload_n 0, 1) := by decide +kernel
theorem dX3_take_31 : decode cX3_take 31 = .ok (.aload_n 1, 1) := by decide +kernel
theorem dX3_take_32 : decode cX3_take 32 = .ok (.getfield 18, 3) := by decide +kernel
theorem dX3_take_35 : decode cX3_take 35 = .ok (.putfield 18, 3) := by decide +kernel
theorem dX3_take_38 : decode cX3_take 38 = .ok (.aload_n 0, 1) := by decide +kernel
theorem dX3_take_39 : decode cX3_take 39 = .ok (.aload_n 1, 1) := by decide +kernel
theorem dX3_take_40 : decode cX3_take 40 = .ok (.getfield 29, 3) := by decide +kernel
theorem dX3_take_43 : decode cX3_take 43 = .ok (.putfield 29, 3) := by decide +kernel
theorem dX3_take_46 : decode cX3_take 46 = .ok (.aload_n 1, 1) := by decide +kernel
theorem dX3_take_47 : decode cX3_take 47 = .ok (.invokevirtual 38, 3) := by decide +kernel
theorem dX3_take_50 : decode cX3_take 50 = .ok (.return_, 1) := by decide +kernel
theorem dX3_hasLetter_0 : decode cX3_hasLetter 0 = .ok (.aload_n 0, 1) := by decide +kernel
theorem dX3_hasLetter_1 : decode cX3_hasLetter 1 = .ok (.getfield 29, 3) := by decide +kernel
theorem dX3_hasLetter_4 : decode cX3_hasLetter 4 = .ok (.ifCond .le 7, 3) := by decide +kernel
theorem dX3_hasLetter_7 : decode cX3_hasLetter 7 = .ok (.iconst 1, 1) := by decide +kernel
theorem dX3_hasLetter_8 : decode cX3_hasLetter 8 = .ok (.goto 4, 3) := by decide +kernel
theorem dX3_hasLetter_11 : decode cX3_hasLetter 11 = .ok (.iconst 0, 1) := by decide +kernel
theorem dX3_hasLetter_12 : decode cX3_hasLetter 12 = .ok (.ireturn, 1) := by decide +kernel
theorem dX3_firstLetter_0 : decode cX3_firstLetter 0 = .ok (.aload_n 0, 1) := by decide +kernel
theorem dX3_firstLetter_1 : decode cX3_firstLetter 1 = .ok (.getfield 15, 3) := by decide +kernel
theorem dX3_firstLetter_4 : decode cX3_firstLetter 4 = .ok (.iconst 0, 1) := by decide +kernel
theorem dX3_firstLetter_5 : decode cX3_firstLetter 5 = .ok (.caload, 1) := by decide +kernel
theorem dX3_firstLetter_6 : decode cX3_firstLetter 6 = .ok (.ireturn, 1) := by decide +kernel
theorem dX3_compareBy_0 : decode cX3_compareBy 0 = .ok (.iload_n 1, 1) := by decide +kernel
theorem dX3_compareBy_1 : decode cX3_compareBy 1 = .ok (.ifCond .eq 10, 3) := by decide +kernel
theorem dX3_compareBy_4 : decode cX3_compareBy 4 = .ok (.aload_n 0, 1) := by decide +kernel
theorem dX3_compareBy_5 : decode cX3_compareBy 5 = .ok (.getfield 9, 3) := by decide +kernel
theorem dX3_compareBy_8 : decode cX3_compareBy 8 = .ok (.goto 7, 3) := by decide +kernel
theorem dX3_compareBy_11 : decode cX3_compareBy 11 = .ok (.aload_n 0, 1) := by decide +kernel
theorem dX3_compareBy_12 : decode cX3_compareBy 12 = .ok (.getfield 15, 3) := by decide +kernel
theorem dX3_compareBy_15 : decode cX3_compareBy 15 = .ok (.astore_n 3, 1) := by decide +kernel
theorem dX3_compareBy_16 : decode cX3_compareBy 16 = .ok (.iload_n 1, 1) := by decide +kernel
theorem dX3_compareBy_17 : decode cX3_compareBy 17 = .ok (.ifCond .eq 10, 3) := by decide +kernel
theorem dX3_compareBy_20 : decode cX3_compareBy 20 = .ok (.aload_n 2, 1) := by decide +kernel
theorem dX3_compareBy_21 : decode cX3_compareBy 21 = .ok (.getfield 9, 3) := by decide +kernel
theorem dX3_compareBy_24 : decode cX3_compareBy 24 = .ok (.goto 7, 3) := by decide +kernel
theorem dX3_compareBy_27 : decode cX3_compareBy 27 = .ok (.aload_n 2, 1) := by decide +kernel
theorem dX3_compareBy_28 : decode cX3_compareBy 28 = .ok (.getfield 15, 3) := by decide +kernel
theorem dX3_compareBy_31 : decode cX3_compareBy 31 = .ok (.astore 4, 2) := by decide +kernel
theorem dX3_compareBy_33 : decode cX3_compareBy 33 = .ok (.iload_n 1, 1) := by decide +kernel
theorem dX3_compareBy_34 : decode cX3_compareBy 34 = .ok (.ifCond .eq 10, 3) := by decide +kernel
theorem dX3_compareBy_37 : decode cX3_compareBy 37 = .ok (.aload_n 0, 1) := by decide +kernel
theorem dX3_compareBy_38 : decode cX3_compareBy 38 = .ok (.getfield 18, 3) := by decide +kernel
theorem dX3_compareBy_41 : decode cX3_compareBy 41 = .ok (.goto 7, 3) := by decide +kernel
theorem dX3_compareBy_44 : decode cX3_compareBy 44 = .ok (.aload_n 0, 1) := by decide +kernel
theorem dX3_compareBy_45 : decode cX3_compareBy 45 = .ok (.getfield 29, 3) := by decide +kernel
theorem dX3_compareBy_48 : decode cX3_compareBy 48 = .ok (.istore 5, 2) := by decide +kernel
theorem dX3_compareBy_50 : decode cX3_compareBy 50 = .ok (.iload_n 1, 1) := by decide +kernel
theorem dX3_compareBy_51 : decode cX3_compareBy 51 = .ok (.ifCond .eq 10, 3) := by decide +kernel
theorem dX3_compareBy_54 : decode cX3_compareBy 54 = .ok (.aload_n 2, 1) := by decide +kernel
theorem dX3_compareBy_55 : decode cX3_compareBy 55 = .ok (.getfield 18, 3) := by decide +kernel
theorem dX3_compareBy_58 : decode cX3_compareBy 58 = .ok (.goto 7, 3) := by decide +kernel
theorem dX3_compareBy_61 : decode cX3_compareBy 61 = .ok (.aload_n 2, 1) := by decide +kernel
theorem dX3_compareBy_62 : decode cX3_compareBy 62 = .ok (.getfield 29, 3) := by decide +kernel
theorem dX3_compareBy_65 : decode cX3_compareBy 65 = .ok (.istore 6, 2) := by decide +kernel
theorem dX3_compareBy_67 : decode cX3_compareBy 67 = .ok (.iconst 0, 1) := by decide +kernel
theorem dX3_compareBy_68 : decode cX3_compareBy 68 = .ok (.istore 7, 2) := by decide +kernel
theorem dX3_compareBy_70 : decode cX3_compareBy 70 = .ok (.iload 7, 2) := by decide +kernel
theorem dX3_compareBy_72 : decode cX3_compareBy 72 = .ok (.iload 5, 2) := by decide +kernel
theorem dX3_compareBy_74 : decode cX3_compareBy 74 = .ok (.if_icmp .ge 39, 3) := by decide +kernel
theorem dX3_compareBy_77 : decode cX3_compareBy 77 = .ok (.iload 7, 2) := by decide +kernel
theorem dX3_compareBy_79 : decode cX3_compareBy 79 = .ok (.iload 6, 2) := by decide +kernel
theorem dX3_compareBy_81 : decode cX3_compareBy 81 = .ok (.if_icmp .ge 32, 3) := by decide +kernel
theorem dX3_compareBy_84 : decode cX3_compareBy 84 = .ok (.aload_n 3, 1) := by decide +kernel
theorem dX3_compareBy_85 : decode cX3_compareBy 85 = .ok (.iload 7, 2) := by decide +kernel
theorem dX3_compareBy_87 : decode cX3_compareBy 87 = .ok (.caload, 1) := by decide +kernel
theorem dX3_compareBy_88 : decode cX3_compareBy 88 = .ok (.aload 4, 2) := by decide +kernel
theorem dX3_compareBy_90 : decode cX3_compareBy 90 = .ok (.iload 7, 2) := by decide +kernel
theorem dX3_compareBy_92 : decode cX3_compareBy 92 = .ok (.caload, 1) := by decide +kernel
theorem dX3_compareBy_93 : decode cX3_compareBy 93 = .ok (.if_icmp .eq 14, 3) := by decide +kernel
theorem dX3_compareBy_96 : decode cX3_compareBy 96 = .ok (.aload_n 3, 1) := by decide +kernel
theorem dX3_compareBy_97 : decode cX3_compareBy 97 = .ok (.iload 7, 2) := by decide +kernel
theorem dX3_compareBy_99 : decode cX3_compareBy 99 = .ok (.caload, 1) := by decide +kernel
theorem dX3_compareBy_100 : decode cX3_compareBy 100 = .ok (.aload 4, 2) := by decide +kernel
theorem dX3_compareBy_102 : decode cX3_compareBy 102 = .ok (.iload 7, 2) := by decide +kernel
theorem dX3_compareBy_104 : decode cX3_compareBy 104 = .ok (.caload, 1) := by decide +kernel
theorem dX3_compareBy_105 : decode cX3_compareBy 105 = .ok (.isub, 1) := by decide +kernel
theorem dX3_compareBy_106 : decode cX3_compareBy 106 = .ok (.ireturn, 1) := by decide +kernel
theorem dX3_compareBy_107 : decode cX3_compareBy 107 = .ok (.iinc 7 1, 3) := by decide +kernel
theorem dX3_compareBy_110 : decode cX3_compareBy 110 = .ok (.goto (-40), 3) := by decide +kernel
theorem dX3_compareBy_113 : decode cX3_compareBy 113 = .ok (.iload 5, 2) := by decide +kernel
theorem dX3_compareBy_115 : decode cX3_compareBy 115 = .ok (.iload 6, 2) := by decide +kernel
theorem dX3_compareBy_117 : decode cX3_compareBy 117 = .ok (.isub, 1) := by decide +kernel
theorem dX3_compareBy_118 : decode cX3_compareBy 118 = .ok (.ireturn, 1) := by decide +kernel
theorem dX4_init_0 : decode cX4_init 0 = .ok (.aload_n 0, 1) := by decide +kernel
theorem dX4_init_1 : decode cX4_init 1 = .ok (.invokespecial 1, 3) := by decide +kernel
theorem dX4_init_4 : decode cX4_init 4 = .ok (.aload_n 0, 1) := by decide +kernel
theorem dX4_init_5 : decode cX4_init 5 = .ok (.new 7, 3) := by decide +kernel
theorem dX4_init_8 : decode cX4_init 8 = .ok (.dup, 1) := by decide +kernel
theorem dX4_init_9 : decode cX4_init 9 = .ok (.invokespecial 9, 3) := by decide +kernel
theorem dX4_init_12 : decode cX4_init 12 = .ok (.putfield 10, 3) := by decide +kernel
theorem dX4_init_15 : decode cX4_init 15 = .ok (.aload_n 0, 1) := by decide +kernel
theorem dX4_init_16 : decode cX4_init 16 = .ok (.getstatic 16, 3) := by decide +kernel
theorem dX4_init_19 : decode cX4_init 19 = .ok (.putfield 22, 3) := by decide +kernel
theorem dX4_init_22 : decode cX4_init 22 = .ok (.return_, 1) := by decide +kernel
theorem dX5_init_0 : decode cX5_init 0 = .ok (.aload_n 0, 1) := by decide +kernel
theorem dX5_init_1 : decode cX5_init 1 = .ok (.invokespecial 1, 3) := by decide +kernel
theorem dX5_init_4 : decode cX5_init 4 = .ok (.return_, 1) := by decide +kernel
theorem dX6_init_0 : decode cX6_init 0 = .ok (.aload_n 0, 1) := by decide +kernel
theorem dX6_init_1 : decode cX6_init 1 = .ok (.invokespecial 1, 3) := by decide +kernel
theorem dX6_init_4 : decode cX6_init 4 = .ok (.aload_n 0, 1) := by decide +kernel
theorem dX6_init_5 : decode cX6_init 5 = .ok (.new 7, 3) := by decide +kernel
theorem dX6_init_8 : decode cX6_init 8 = .ok (.dup, 1) := by decide +kernel
theorem dX6_init_9 : decode cX6_init 9 = .ok (.invokespecial 9, 3) := by decide +kernel
theorem dX6_init_12 : decode cX6_init 12 = .ok (.putfield 10, 3) := by decide +kernel
theorem dX6_init_15 : decode cX6_init 15 = .ok (.aload_n 0, 1) := by decide +kernel
theorem dX6_init_16 : decode cX6_init 16 = .ok (.bipush 24, 2) := by decide +kernel
theorem dX6_init_18 : decode cX6_init 18 = .ok (.anewarray 16, 3) := by decide +kernel
theorem dX6_init_21 : decode cX6_init 21 = .ok (.putfield 18, 3) := by decide +kernel
theorem dX6_init_24 : decode cX6_init 24 = .ok (.aload_n 0, 1) := by decide +kernel
theorem dX6_init_25 : decode cX6_init 25 = .ok (.iconst 4, 1) := by decide +kernel
theorem dX6_init_26 : decode cX6_init 26 = .ok (.anewarray 22, 3) := by decide +kernel
theorem dX6_init_29 : decode cX6_init 29 = .ok (.putfield 24, 3) := by decide +kernel
theorem dX6_init_32 : decode cX6_init 32 = .ok (.aload_n 0, 1) := by decide +kernel
theorem dX6_init_33 : decode cX6_init 33 = .ok (.bipush 6, 2) := by decide +kernel
theorem dX6_init_35 : decode cX6_init 35 = .ok (.anewarray 28, 3) := by decide +kernel
theorem dX6_init_38 : decode cX6_init 38 = .ok (.putfield 30, 3) := by decide +kernel
theorem dX6_init_41 : decode cX6_init 41 = .ok (.aload_n 0, 1) := by decide +kernel
theorem dX6_init_42 : decode cX6_init 42 = .ok (.bipush 10, 2) := by decide +kernel
theorem dX6_init_44 : decode cX6_init 44 = .ok (.newarray .int, 2) := by decide +kernel
theorem dX6_init_46 : decode cX6_init 46 = .ok (.putfield 34, 3) := by decide +kernel
theorem dX6_init_49 : decode cX6_init 49 = .ok (.aload_n 0, 1) := by decide +kernel
theorem dX6_init_50 : decode cX6_init 50 = .ok (.bipush 8, 2) := by decide +kernel
theorem dX6_init_52 : decode cX6_init 52 = .ok (.newarray .int, 2) := by decide +kernel
theorem dX6_init_54 : decode cX6_init 54 = .ok (.putfield 38, 3) := by decide +kernel
theorem dX6_init_57 : decode cX6_init 57 = .ok (.iconst 0, 1) := by decide +kernel
theorem dX6_init_58 : decode cX6_init 58 = .ok (.istore_n 1, 1) := by decide +kernel
theorem dX6_init_59 : decode cX6_init 59 = .ok (.iload_n 1, 1) := by decide +kernel
theorem dX6_init_60 : decode cX6_init 60 = .ok (.bipush 24, 2) := by decide +kernel
theorem dX6_init_62 : decode cX6_init 62 = .ok (.if_icmp .ge 22, 3) := by decide +kernel
theorem dX6_init_65 : decode cX6_init 65 = .ok (.aload_n 0, 1) := by decide +kernel
theorem dX6_init_66 : decode cX6_init 66 = .ok (.getfield 18, 3) := by decide +kernel
theorem dX6_init_69 : decode cX6_init 69 = .ok (.iload_n 1, 1) := by decide +kernel
theorem dX6_init_70 : decode cX6_init 70 = .ok (.new 16, 3) := by decide +kernel
theorem dX6_init_73 : decode cX6_init 73 = .ok (.dup, 1) := by decide +kernel
theorem dX6_init_74 : decode cX6_init 74 = .ok (.invokespecial 41, 3) := by decide +kernel
theorem dX6_init_77 : decode cX6_init 77 = .ok (.aastore, 1) := by decide +kernel
theorem dX6_init_78 : decode cX6_init 78 = .ok (.iinc 1 1, 3) := by decide +kernel
theorem dX6_init_81 : decode cX6_init 81 = .ok (.goto (-22), 3) := by decide +kernel
theorem dX6_init_84 : decode cX6_init 84 = .ok (.iconst 0, 1) := by decide +kernel
theorem dX6_init_85 : decode cX6_init 85 = .ok (.istore_n 1, 1) := by decide +kernel
theorem dX6_init_86 : decode cX6_init 86 = .ok (.iload_n 1, 1) := by decide +kernel
theorem dX6_init_87 : decode cX6_init 87 = .ok (.iconst 4, 1) := by decide +kernel
theorem dX6_init_88 : decode cX6_init 88 = .ok (.if_icmp .ge 22, 3) := by decide +kernel
theorem dX6_init_91 : decode cX6_init 91 = .ok (.aload_n 0, 1) := by decide +kernel
theorem dX6_init_92 : decode cX6_init 92 = .ok (.getfield 24, 3) := by decide +kernel
theorem dX6_init_95 : decode cX6_init 95 = .ok (.iload_n 1, 1) := by decide +kernel
theorem dX6_init_96 : decode cX6_init 96 = .ok (.new 22, 3) := by decide +kernel
theorem dX6_init_99 : decode cX6_init 99 = .ok (.dup, 1) := by decide +kernel
theorem dX6_init_100 : decode cX6_init 100 = .ok (.invokespecial 42, 3) := by decide +kernel
theorem dX6_init_103 : decode cX6_init 103 = .ok (.aastore, 1) := by decide +kernel
theorem dX6_init_104 : decode cX6_init 104 = .ok (.iinc 1 1, 3) := by decide +kernel
theorem dX6_init_107 : decode cX6_init 107 = .ok (.goto (-21), 3) := by decide +kernel
theorem dX6_init_110 : decode cX6_init 110 = .ok (.iconst 0, 1) := by decide +kernel
theorem dX6_init_111 : decode cX6_init 111 = .ok (.istore_n 1, 1) := by decide +kernel
theorem dX6_init_112 : decode cX6_init 112 = .ok (.iload_n 1, 1) := by decide +kernel
theorem dX6_init_113 : decode cX6_init 113 = .ok (.bipush 6, 2) := by decide +kernel
theorem dX6_init_115 : decode cX6_init 115 = .ok (.if_icmp .ge 22, 3) := by decide +kernel
theorem dX6_init_118 : decode cX6_init 118 = .ok (.aload_n 0, 1) := by decide +kernel
theorem dX6_init_119 : decode cX6_init 119 = .ok (.getfield 30, 3) := by decide +kernel
theorem dX6_init_122 : decode cX6_init 122 = .ok (.iload_n 1, 1) := by decide +kernel
theorem dX6_init_123 : decode cX6_init 123 = .ok (.new 28, 3) := by decide +kernel
theorem dX6_init_126 : decode cX6_init 126 = .ok (.dup, 1) := by decide +kernel
theorem dX6_init_127 : decode cX6_init 127 = .ok (.invokespecial 43, 3) := by decide +kernel
theorem dX6_init_130 : decode cX6_init 130 = .ok (.aastore, 1) := by decide +kernel
theorem dX6_init_131 : decode cX6_init 131 = .ok (.iinc 1 1, 3) := by decide +kernel
theorem dX6_init_134 : decode cX6_init 134 = .ok (.goto (-22), 3) := by decide +kernel
theorem dX6_init_137 : decode cX6_init 137 = .ok (.iconst 0, 1) := by decide +kernel
theorem dX6_init_138 : decode cX6_init 138 = .ok (.istore_n 1, 1) := by decide +kernel
theorem dX6_init_139 : decode cX6_init 139 = .ok (.iload_n 1, 1) := by decide +kernel
theorem dX6_init_140 : decode cX6_init 140 = .ok (.bipush 10, 2) := by decide +kernel
theorem dX6_init_142 : decode cX6_init 142 = .ok (.if_icmp .ge 16, 3) := by decide +kernel
theorem dX6_init_145 : decode cX6_init 145 = .ok (.aload_n 0, 1) := by decide +kernel
theorem dX6_init_146 : decode cX6_init 146 = .ok (.getfield 34, 3) := by decide +kernel
theorem dX6_init_149 : decode cX6_init 149 = .ok (.iload_n 1, 1) := by decide +kernel
theorem dX6_init_150 : decode cX6_init 150 = .ok (.iconst (-1), 1) := by decide +kernel
theorem dX6_init_151 : decode cX6_init 151 = .ok (.iastore, 1) := by decide +kernel
theorem dX6_init_152 : decode cX6_init 152 = .ok (.iinc 1 1, 3) := by decide +kernel
theorem dX6_init_155 : decode cX6_init 155 = .ok (.goto (-16), 3) := by decide +kernel
theorem dX6_init_158 : decode cX6_init 158 = .ok (.return_, 1) := by decide +kernel
theorem dX6_sign_0 : decode cX6_sign 0 = .ok (.iload_n 1, 1) := by decide +kernel
theorem dX6_sign_1 : decode cX6_sign 1 = .ok (.invokestatic 44, 3) := by decide +kernel
theorem dX6_sign_4 : decode cX6_sign 4 = .ok (.ifCond .ne 20, 3) := by decide +kernel
theorem dX6_sign_7 : decode cX6_sign 7 = .ok (.iload_n 1, 1) := by decide +kernel
theorem dX6_sign_8 : decode cX6_sign 8 = .ok (.invokestatic 48, 3) := by decide +kernel
theorem dX6_sign_11 : decode cX6_sign 11 = .ok (.ifCond .ne 13, 3) := by decide +kernel
theorem dX6_sign_14 : decode cX6_sign 14 = .ok (.new 51, 3) := by decide +kernel
theorem dX6_sign_17 : decode cX6_sign 17 = .ok (.dup, 1) := by decide +kernel
theorem dX6_sign_18 : decode cX6_sign 18 = .ok (.ldc 53, 2) := by decide +kernel
theorem dX6_sign_20 : decode cX6_sign 20 = .ok (.invokespecial 55, 3) := by decide +kernel
theorem dX6_sign_23 : decode cX6_sign 23 = .ok (.athrow, 1) := by decide +kernel
theorem dX6_sign_24 : decode cX6_sign 24 = .ok (.aload_n 0, 1) := by decide +kernel
theorem dX6_sign_25 : decode cX6_sign 25 = .ok (.getfield 10, 3) := by decide +kernel
theorem dX6_sign_28 : decode cX6_sign 28 = .ok (.getfield 58, 3) := by decide +kernel
theorem dX6_sign_31 : decode cX6_sign 31 = .ok (.bipush 8, 2) := by decide +kernel
theorem dX6_sign_33 : decode cX6_sign 33 = .ok (.if_icmp .lt 13, 3) := by decide +kernel
theorem dX6_sign_36 : decode cX6_sign 36 = .ok (.new 62, 3) := by decide +kernel
theorem dX6_sign_39 : decode cX6_sign 39 = .ok (.dup, 1) := by decide +kernel
theorem dX6_sign_40 : decode cX6_sign 40 = .ok (.ldc 64, 2) := by decide +kernel
theorem dX6_sign_42 : decode cX6_sign 42 = .ok (.invokespecial 66, 3) := by decide +kernel
theorem dX6_sign_45 : decode cX6_sign 45 = .ok (.athrow, 1) := by decide +kernel
theorem dX6_sign_46 : decode cX6_sign 46 = .ok (.aload_n 0, 1) := by decide +kernel
theorem dX6_sign_47 : decode cX6_sign 47 = .ok (.getfield 10, 3) := by decide +kernel
theorem dX6_sign_50 : decode cX6_sign 50 = .ok (.iload_n 1, 1) := by decide +kernel
theorem dX6_sign_51 : decode cX6_sign 51 = .ok (.invokevirtual 67, 3) := by decide +kernel
theorem dX6_sign_54 : decode cX6_sign 54 = .ok (.aload_n 0, 1) := by decide +kernel
theorem dX6_sign_55 : decode cX6_sign 55 = .ok (.getfield 10, 3) := by decide +kernel
theorem dX6_sign_58 : decode cX6_sign 58 = .ok (.getfield 58, 3) := by decide +kernel
theorem dX6_sign_61 : decode cX6_sign 61 = .ok (.ireturn, 1) := by decide +kernel
theorem dX6_erase_0 : decode cX6_erase 0 = .ok (.aload_n 0, 1) := by decide +kernel
theorem dX6_erase_1 : decode cX6_erase 1 = .ok (.getfield 10, 3) := by decide +kernel
theorem dX6_erase_4 : decode cX6_erase 4 = .ok (.getfield 58, 3) := by decide +kernel
theorem dX6_erase_7 : decode cX6_erase 7 = .ok (.istore_n 1, 1) := by decide +kernel
theorem dX6_erase_8 : decode cX6_erase 8 = .ok (.aload_n 0, 1) := by decide +kernel
theorem dX6_erase_9 : decode cX6_erase 9 = .ok (.getfield 10, 3) := by decide +kernel
theorem dX6_erase_12 : decode cX6_erase 12 = .ok (.invokevirtual 71, 3) := by decide +kernel
theorem dX6_erase_15 : decode cX6_erase 15 = .ok (.iload_n 1, 1) := by decide +kernel
theorem dX6_erase_16 : decode cX6_erase 16 = .ok (.ireturn, 1) := by decide +kernel
theorem dX6_rule_0 : decode cX6_rule 0 = .ok (.aload_n 0, 1) := by decide +kernel
theorem dX6_rule_1 : decode cX6_rule 1 = .ok (.getfield 74, 3) := by decide +kernel
theorem dX6_rule_4 : decode cX6_rule 4 = .ok (.ifCond .le 13, 3) := by decide +kernel
theorem dX6_rule_7 : decode cX6_rule 7 = .ok (.new 62, 3) := by decide +kernel
theorem dX6_rule_10 : decode cX6_rule 10 = .ok (.dup, 1) := by decide +kernel
theorem dX6_rule_11 : decode cX6_rule 11 = .ok (.ldc 77, 2) := by decide +kernel
theorem dX6_rule_13 : decode cX6_rule 13 = .ok (.invokespecial 66, 3) := by decide +kernel
theorem dX6_rule_16 : decode cX6_rule 16 = .ok (.athrow, 1) := by decide +kernel
theorem dX6_rule_17 : decode cX6_rule 17 = .ok (.aload_n 0, 1) := by decide +kernel
theorem dX6_rule_18 : decode cX6_rule 18 = .ok (.getfield 79, 3) := by decide +kernel
theorem dX6_rule_21 : decode cX6_rule 21 = .ok (.istore_n 2, 1) := by decide +kernel
theorem dX6_rule_22 : decode cX6_rule 22 = .ok (.aload_n 0, 1) := by decide +kernel
theorem dX6_rule_23 : decode cX6_rule 23 = .ok (.iload_n 1, 1) := by decide +kernel
theorem dX6_rule_24 : decode cX6_rule 24 = .ok (.putfield 79, 3) := by decide +kernel
theorem dX6_rule_27 : decode cX6_rule 27 = .ok (.iload_n 2, 1) := by decide +kernel
theorem dX6_rule_28 : decode cX6_rule 28 = .ok (.ireturn, 1) := by decide +kernel
theorem dX6_article_0 : decode cX6_article 0 = .ok (.iload_n 1, 1) := by decide +kernel
theorem dX6_article_1 : decode cX6_article 1 = .ok (.invokestatic 83, 3) := by decide +kernel
theorem dX6_article_4 : decode cX6_article 4 = .ok (.iload_n 2, 1) := by decide +kernel
theorem dX6_article_5 : decode cX6_article 5 = .ok (.ifCond .lt 9, 3) := by decide +kernel
theorem dX6_article_8 : decode cX6_article 8 = .ok (.iload_n 2, 1) := by decide +kernel
theorem dX6_article_9 : decode cX6_article 9 = .ok (.bipush 9, 2) := by decide +kernel
theorem dX6_article_11 : decode cX6_article 11 = .ok (.if_icmp .le 13, 3) := by decide +kernel
theorem dX6_article_14 : decode cX6_article 14 = .ok (.new 51, 3) := by decide +kernel
theorem dX6_article_17 : decode cX6_article 17 = .ok (.dup, 1) := by decide +kernel
theorem dX6_article_18 : decode cX6_article 18 = .ok (.ldc 87, 2) := by decide +kernel
theorem dX6_article_20 : decode cX6_article 20 = .ok (.invokespecial 55, 3) := by decide +kernel
theorem dX6_article_23 : decode cX6_article 23 = .ok (.athrow, 1) := by decide +kernel
theorem dX6_article_24 : decode cX6_article 24 = .ok (.aload_n 0, 1) := by decide +kernel
theorem dX6_article_25 : decode cX6_article 25 = .ok (.getfield 89, 3) := by decide +kernel
theorem dX6_article_28 : decode cX6_article 28 = .ok (.bipush 24, 2) := by decide +kernel
theorem dX6_article_30 : decode cX6_article 30 = .ok (.if_icmp .ge 13, 3) := by decide +kernel
theorem dX6_article_33 : decode cX6_article 33 = .ok (.aload_n 0, 1) := by decide +kernel
theorem dX6_article_34 : decode cX6_article 34 = .ok (.getfield 10, 3) := by decide +kernel
theorem dX6_article_37 : decode cX6_article 37 = .ok (.invokevirtual 92, 3) := by decide +kernel
theorem dX6_article_40 : decode cX6_article 40 = .ok (.ifCond .ne 13, 3) := by decide +kernel
theorem dX6_article_43 : decode cX6_article 43 = .ok (.new 62, 3) := by decide +kernel
theorem dX6_article_46 : decode cX6_article 46 = .ok (.dup, 1) := by decide +kernel
theorem dX6_article_47 : decode cX6_article 47 = .ok (.ldc 96, 2) := by decide +kernel
theorem dX6_article_49 : decode cX6_article 49 = .ok (.invokespecial 66, 3) := by decide +kernel
theorem dX6_article_52 : decode cX6_article 52 = .ok (.athrow, 1) := by decide +kernel
theorem dX6_article_53 : decode cX6_article 53 = .ok (.aload_n 0, 1) := by decide +kernel
theorem dX6_article_54 : decode cX6_article 54 = .ok (.getfield 18, 3) := by decide +kernel
theorem dX6_article_57 : decode cX6_article 57 = .ok (.aload_n 0, 1) := by decide +kernel
theorem dX6_article_58 : decode cX6_article 58 = .ok (.getfield 89, 3) := by decide +kernel
theorem dX6_article_61 : decode cX6_article 61 = .ok (.aaload, 1) := by decide +kernel
theorem dX6_article_62 : decode cX6_article 62 = .ok (.astore_n 3, 1) := by decide +kernel
theorem dX6_article_63 : decode cX6_article 63 = .ok (.aload_n 3, 1) := by decide +kernel
theorem dX6_article_64 : decode cX6_article 64 = .ok (.iload_n 1, 1) := by decide +kernel
theorem dX6_article_65 : decode cX6_article 65 = .ok (.putfield 98, 3) := by decide +kernel
theorem dX6_article_68 : decode cX6_article 68 = .ok (.aload_n 3, 1) := by decide +kernel
theorem dX6_article_69 : decode cX6_article 69 = .ok (.iload_n 2, 1) := by decide +kernel
theorem dX6_article_70 : decode cX6_article 70 = .ok (.putfield 101, 3) := by decide +kernel
theorem dX6_article_73 : decode cX6_article 73 = .ok (.aload_n 3, 1) := by decide +kernel
theorem dX6_article_74 : decode cX6_article 74 = .ok (.getfield 104, 3) := by decide +kernel
theorem dX6_article_77 : decode cX6_article 77 = .ok (.aload_n 0, 1) := by decide +kernel
theorem dX6_article_78 : decode cX6_article 78 = .ok (.getfield 10, 3) := by decide +kernel
theorem dX6_article_81 : decode cX6_article 81 = .ok (.invokevirtual 107, 3) := by decide +kernel
theorem dX6_article_84 : decode cX6_article 84 = .ok (.aload_n 0, 1) := by decide +kernel
theorem dX6_article_85 : decode cX6_article 85 = .ok (.dup, 1) := by decide +kernel
theorem dX6_article_86 : decode cX6_article 86 = .ok (.getfield 89, 3) := by decide +kernel
theorem dX6_article_89 : decode cX6_article 89 = .ok (.dup_x1, 1) := by decide +kernel
theorem dX6_article_90 : decode cX6_article 90 = .ok (.iconst 1, 1) := by decide +kernel
theorem dX6_article_91 : decode cX6_article 91 = .ok (.iadd, 1) := by decide +kernel
theorem dX6_article_92 : decode cX6_article 92 = .ok (.putfield 89, 3) := by decide +kernel
theorem dX6_article_95 : decode cX6_article 95 = .ok (.ireturn, 1) := by decide +kernel
theorem dX6_under_0 : decode cX6_under 0 = .ok (.iload_n 1, 1) := by decide +kernel
theorem dX6_under_1 : decode cX6_under 1 = .ok (.invokestatic 83, 3) := by decide +kernel
theorem dX6_under_4 : decode cX6_under 4 = .ok (.iload_n 2, 1) := by decide +kernel
theorem dX6_under_5 : decode cX6_under 5 = .ok (.iconst (-1), 1) := by decide +kernel
theorem dX6_under_6 : decode cX6_under 6 = .ok (.if_icmp .eq 7, 3) := by decide +kernel
theorem dX6_under_9 : decode cX6_under 9 = .ok (.iload_n 2, 1) := by decide +kernel
theorem dX6_under_10 : decode cX6_under 10 = .ok (.invokestatic 83, 3) := by decide +kernel
theorem dX6_under_13 : decode cX6_under 13 = .ok (.iload_n 2, 1) := by decide +kernel
theorem dX6_under_14 : decode cX6_under 14 = .ok (.iload_n 1, 1) := by decide +kernel
theorem dX6_under_15 : decode cX6_under 15 = .ok (.if_icmp .lt 13, 3) := by decide +kernel
theorem dX6_under_18 : decode cX6_under 18 = .ok (.new 51, 3) := by decide +kernel
theorem dX6_under_21 : decode cX6_under 21 = .ok (.dup, 1) := by decide +kernel
theorem dX6_under_22 : decode cX6_under 22 = .ok (.ldc 111, 2) := by decide +kernel
theorem dX6_under_24 : decode cX6_under 24 = .ok (.invokespecial 55, 3) := by decide +kernel
theorem dX6_under_27 : decode cX6_under 27 = .ok (.athrow, 1) := by decide +kernel
theorem dX6_under_28 : decode cX6_under 28 = .ok (.aload_n 0, 1) := by decide +kernel
theorem dX6_under_29 : decode cX6_under 29 = .ok (.getfield 34, 3) := by decide +kernel
theorem dX6_under_32 : decode cX6_under 32 = .ok (.iload_n 1, 1) := by decide +kernel
theorem dX6_under_33 : decode cX6_under 33 = .ok (.iaload, 1) := by decide +kernel
theorem dX6_under_34 : decode cX6_under 34 = .ok (.istore_n 3, 1) := by decide +kernel
theorem dX6_under_35 : decode cX6_under 35 = .ok (.aload_n 0, 1) := by decide +kernel
theorem dX6_under_36 : decode cX6_under 36 = .ok (.getfield 34, 3) := by decide +kernel
theorem dX6_under_39 : decode cX6_under 39 = .ok (.iload_n 1, 1) := by decide +kernel
theorem dX6_under_40 : decode cX6_under 40 = .ok (.iload_n 2, 1) := by decide +kernel
theorem dX6_under_41 : decode cX6_under 41 = .ok (.iastore, 1) := by decide +kernel
theorem dX6_under_42 : decode cX6_under 42 = .ok (.iload_n 3, 1) := by decide +kernel
theorem dX6_under_43 : decode cX6_under 43 = .ok (.ireturn, 1) := by decide +kernel
theorem dX6_refer_0 : decode cX6_refer 0 = .ok (.aload_n 0, 1) := by decide +kernel
theorem dX6_refer_1 : decode cX6_refer 1 = .ok (.iload_n 1, 1) := by decide +kernel
theorem dX6_refer_2 : decode cX6_refer 2 = .ok (.invokevirtual 113, 3) := by decide +kernel
theorem dX6_refer_5 : decode cX6_refer 5 = .ok (.aload_n 0, 1) := by decide +kernel
theorem dX6_refer_6 : decode cX6_refer 6 = .ok (.getfield 18, 3) := by decide +kernel
theorem dX6_refer_9 : decode cX6_refer 9 = .ok (.iload_n 1, 1) := by decide +kernel
theorem dX6_refer_10 : decode cX6_refer 10 = .ok (.aaload, 1) := by decide +kernel
theorem dX6_refer_11 : decode cX6_refer 11 = .ok (.astore_n 2, 1) := by decide +kernel
theorem dX6_refer_12 : decode cX6_refer 12 = .ok (.aload_n 2, 1) := by decide +kernel
theorem dX6_refer_13 : decode cX6_refer 13 = .ok (.getfield 116, 3) := by decide +kernel
theorem dX6_refer_16 : decode cX6_refer 16 = .ok (.ifCond .ne 21, 3) := by decide +kernel
theorem dX6_refer_19 : decode cX6_refer 19 = .ok (.aload_n 2, 1) := by decide +kernel
theorem dX6_refer_20 : decode cX6_refer 20 = .ok (.getfield 119, 3) := by decide +kernel
theorem dX6_refer_23 : decode cX6_refer 23 = .ok (.iconst 4, 1) := by decide +kernel
theorem dX6_refer_24 : decode cX6_refer 24 = .ok (.if_icmp .ge 13, 3) := by decide +kernel
theorem dX6_refer_27 : decode cX6_refer 27 = .ok (.aload_n 0, 1) := by decide +kernel
theorem dX6_refer_28 : decode cX6_refer 28 = .ok (.getfield 10, 3) := by decide +kernel
theorem dX6_refer_31 : decode cX6_refer 31 = .ok (.invokevirtual 92, 3) := by decide +kernel
theorem dX6_refer_34 : decode cX6_refer 34 = .ok (.ifCond .ne 13, 3) := by decide +kernel
theorem dX6_refer_37 : decode cX6_refer 37 = .ok (.new 62, 3) := by decide +kernel
theorem dX6_refer_40 : decode cX6_refer 40 = .ok (.dup, 1) := by decide +kernel
theorem dX6_refer_41 : decode cX6_refer 41 = .ok (.ldc 122, 2) := by decide +kernel
theorem dX6_refer_43 : decode cX6_refer 43 = .ok (.invokespecial 66, 3) := by decide +kernel
theorem dX6_refer_46 : decode cX6_refer 46 = .ok (.athrow, 1) := by decide +kernel
theorem dX6_refer_47 : decode cX6_refer 47 = .ok (.aload_n 2, 1) := by decide +kernel
theorem dX6_refer_48 : decode cX6_refer 48 = .ok (.getfield 124, 3) := by decide +kernel
theorem dX6_refer_51 : decode cX6_refer 51 = .ok (.aload_n 2, 1) := by decide +kernel
theorem dX6_refer_52 : decode cX6_refer 52 = .ok (.getfield 119, 3) := by decide +kernel
theorem dX6_refer_55 : decode cX6_refer 55 = .ok (.aaload, 1) := by decide +kernel
theorem dX6_refer_56 : decode cX6_refer 56 = .ok (.getfield 128, 3) := by decide +kernel
theorem dX6_refer_59 : decode cX6_refer 59 = .ok (.aload_n 0, 1) := by decide +kernel
theorem dX6_refer_60 : decode cX6_refer 60 = .ok (.getfield 10, 3) := by decide +kernel
theorem dX6_refer_63 : decode cX6_refer 63 = .ok (.invokevirtual 107, 3) := by decide +kernel
theorem dX6_refer_66 : decode cX6_refer 66 = .ok (.aload_n 2, 1) := by decide +kernel
theorem dX6_refer_67 : decode cX6_refer 67 = .ok (.dup, 1) := by decide +kernel
theorem dX6_refer_68 : decode cX6_refer 68 = .ok (.getfield 119, 3) := by decide +kernel
theorem dX6_refer_71 : decode cX6_refer 71 = .ok (.iconst 1, 1) := by decide +kernel
theorem dX6_refer_72 : decode cX6_refer 72 = .ok (.iadd, 1) := by decide +kernel
theorem dX6_refer_73 : decode cX6_refer 73 = .ok (.putfield 119, 3) := by decide +kernel
theorem dX6_refer_76 : decode cX6_refer 76 = .ok (.aload_n 2, 1) := by decide +kernel
theorem dX6_refer_77 : decode cX6_refer 77 = .ok (.getfield 119, 3) := by decide +kernel
theorem dX6_refer_80 : decode cX6_refer 80 = .ok (.ireturn, 1) := by decide +kernel
theorem dX6_use_0 : decode cX6_use 0 = .ok (.aload_n 0, 1) := by decide +kernel
theorem dX6_use_1 : decode cX6_use 1 = .ok (.iload_n 1, 1) := by decide +kernel
theorem dX6_use_2 : decode cX6_use 2 = .ok (.invokevirtual 113, 3) := by decide +kernel
theorem dX6_use_5 : decode cX6_use 5 = .ok (.iload_n 2, 1) := by decide +kernel
theorem dX6_use_6 : decode cX6_use 6 = .ok (.invokestatic 131, 3) := by decide +kernel
theorem dX6_use_9 : decode cX6_use 9 = .ok (.aload_n 0, 1) := by decide +kernel
theorem dX6_use_10 : decode cX6_use 10 = .ok (.getfield 18, 3) := by decide +kernel
theorem dX6_use_13 : decode cX6_use 13 = .ok (.iload_n 1, 1) := by decide +kernel
theorem dX6_use_14 : decode cX6_use 14 = .ok (.aaload, 1) := by decide +kernel
theorem dX6_use_15 : decode cX6_use 15 = .ok (.astore_n 3, 1) := by decide +kernel
theorem dX6_use_16 : decode cX6_use 16 = .ok (.aload_n 3, 1) := by decide +kernel
theorem dX6_use_17 : decode cX6_use 17 = .ok (.getfield 116, 3) := by decide +kernel
theorem dX6_use_20 : decode cX6_use 20 = .ok (.ifCond .ne 10, 3) := by decide +kernel
theorem dX6_use_23 : decode cX6_use 23 = .ok (.aload_n 3, 1) := by decide +kernel
theorem dX6_use_24 : decode cX6_use 24 = .ok (.invokevirtual 134, 3) := by decide +kernel
theorem dX6_use_27 : decode cX6_use 27 = .ok (.ifCond .eq 13, 3) := by decide +kernel
theorem dX6_use_30 : decode cX6_use 30 = .ok (.new 62, 3) := by decide +kernel
theorem dX6_use_33 : decode cX6_use 33 = .ok (.dup, 1) := by decide +kernel
theorem dX6_use_34 : decode cX6_use 34 = .ok (.ldc 137, 2) := by decide +kernel
theorem dX6_use_36 : decode cX6_use 36 = .ok (.invokespecial 66, 3) := by decide +kernel
theorem dX6_use_39 : decode cX6_use 39 = .ok (.athrow, 1) := by decide +kernel
theorem dX6_use_40 : decode cX6_use 40 = .ok (.aload_n 3, 1) := by decide +kernel
theorem dX6_use_41 : decode cX6_use 41 = .ok (.getfield 139, 3) := by decide +kernel
theorem dX6_use_44 : decode cX6_use 44 = .ok (.iload_n 2, 1) := by decide +kernel
theorem dX6_use_45 : decode cX6_use 45 = .ok (.baload, 1) := by decide +kernel
theorem dX6_use_46 : decode cX6_use 46 = .ok (.ifCond .ne 7, 3) := by decide +kernel
theorem dX6_use_49 : decode cX6_use 49 = .ok (.iconst 1, 1) := by decide +kernel
theorem dX6_use_50 : decode cX6_use 50 = .ok (.goto 4, 3) := by decide +kernel
theorem dX6_use_53 : decode cX6_use 53 = .ok (.iconst 0, 1) := by decide +kernel
theorem dX6_use_54 : decode cX6_use 54 = .ok (.istore 4, 2) := by decide +kernel
theorem dX6_use_56 : decode cX6_use 56 = .ok (.aload_n 3, 1) := by decide +kernel
theorem dX6_use_57 : decode cX6_use 57 = .ok (.getfield 139, 3) := by decide +kernel
theorem dX6_use_60 : decode cX6_use 60 = .ok (.iload_n 2, 1) := by decide +kernel
theorem dX6_use_61 : decode cX6_use 61 = .ok (.iconst 1, 1) := by decide +kernel
theorem dX6_use_62 : decode cX6_use 62 = .ok (.bastore, 1) := by decide +kernel
theorem dX6_use_63 : decode cX6_use 63 = .ok (.iload 4, 2) := by decide +kernel
theorem dX6_use_65 : decode cX6_use 65 = .ok (.ireturn, 1) := by decide +kernel
theorem dX6_change_0 : decode cX6_change 0 = .ok (.iload_n 1, 1) := by decide +kernel
theorem dX6_change_1 : decode cX6_change 1 = .ok (.invokestatic 131, 3) := by decide +kernel
theorem dX6_change_4 : decode cX6_change 4 = .ok (.aload_n 0, 1) := by decide +kernel
theorem dX6_change_5 : decode cX6_change 5 = .ok (.getfield 38, 3) := by decide +kernel
theorem dX6_change_8 : decode cX6_change 8 = .ok (.iload_n 1, 1) := by decide +kernel
theorem dX6_change_9 : decode cX6_change 9 = .ok (.iaload, 1) := by decide +kernel
theorem dX6_change_10 : decode cX6_change 10 = .ok (.istore_n 3, 1) := by decide +kernel
theorem dX6_change_11 : decode cX6_change 11 = .ok (.aload_n 0, 1) := by decide +kernel
theorem dX6_change_12 : decode cX6_change 12 = .ok (.getfield 38, 3) := by decide +kernel
theorem dX6_change_15 : decode cX6_change 15 = .ok (.iload_n 1, 1) := by decide +kernel
theorem dX6_change_16 : decode cX6_change 16 = .ok (.iload_n 2, 1) := by decide +kernel
theorem dX6_change_17 : decode cX6_change 17 = .ok (.iastore, 1) := by decide +kernel
theorem dX6_change_18 : decode cX6_change 18 = .ok (.iload_n 3, 1) := by decide +kernel
theorem dX6_change_19 : decode cX6_change 19 = .ok (.ireturn, 1) := by decide +kernel
theorem dX6_forbid_0 : decode cX6_forbid 0 = .ok (.aload_n 0, 1) := by decide +kernel
theorem dX6_forbid_1 : decode cX6_forbid 1 = .ok (.iload_n 1, 1) := by decide +kernel
theorem dX6_forbid_2 : decode cX6_forbid 2 = .ok (.invokevirtual 113, 3) := by decide +kernel
theorem dX6_forbid_5 : decode cX6_forbid 5 = .ok (.aload_n 0, 1) := by decide +kernel
theorem dX6_forbid_6 : decode cX6_forbid 6 = .ok (.getfield 18, 3) := by decide +kernel
theorem dX6_forbid_9 : decode cX6_forbid 9 = .ok (.iload_n 1, 1) := by decide +kernel
theorem dX6_forbid_10 : decode cX6_forbid 10 = .ok (.aaload, 1) := by decide +kernel
theorem dX6_forbid_11 : decode cX6_forbid 11 = .ok (.getfield 116, 3) := by decide +kernel
theorem dX6_forbid_14 : decode cX6_forbid 14 = .ok (.ifCond .eq 13, 3) := by decide +kernel
theorem dX6_forbid_17 : decode cX6_forbid 17 = .ok (.new 62, 3) := by decide +kernel
theorem dX6_forbid_20 : decode cX6_forbid 20 = .ok (.dup, 1) := by decide +kernel
theorem dX6_forbid_21 : decode cX6_forbid 21 = .ok (.ldc 143, 2) := by decide +kernel
theorem dX6_forbid_23 : decode cX6_forbid 23 = .ok (.invokespecial 66, 3) := by decide +kernel
theorem dX6_forbid_26 : decode cX6_forbid 26 = .ok (.athrow, 1) := by decide +kernel
theorem dX6_forbid_27 : decode cX6_forbid 27 = .ok (.aload_n 0, 1) := by decide +kernel
theorem dX6_forbid_28 : decode cX6_forbid 28 = .ok (.getfield 18, 3) := by decide +kernel
theorem dX6_forbid_31 : decode cX6_forbid 31 = .ok (.iload_n 1, 1) := by decide +kernel
theorem dX6_forbid_32 : decode cX6_forbid 32 = .ok (.aaload, 1) := by decide +kernel
theorem dX6_forbid_33 : decode cX6_forbid 33 = .ok (.getfield 145, 3) := by decide +kernel
theorem dX6_forbid_36 : decode cX6_forbid 36 = .ok (.istore_n 3, 1) := by decide +kernel
theorem dX6_forbid_37 : decode cX6_forbid 37 = .ok (.aload_n 0, 1) := by decide +kernel
theorem dX6_forbid_38 : decode cX6_forbid 38 = .ok (.getfield 18, 3) := by decide +kernel
theorem dX6_forbid_41 : decode cX6_forbid 41 = .ok (.iload_n 1, 1) := by decide +kernel
theorem dX6_forbid_42 : decode cX6_forbid 42 = .ok (.aaload, 1) := by decide +kernel
theorem dX6_forbid_43 : decode cX6_forbid 43 = .ok (.iload_n 2, 1) := by decide +kernel
theorem dX6_forbid_44 : decode cX6_forbid 44 = .ok (.putfield 145, 3) := by decide +kernel
theorem dX6_forbid_47 : decode cX6_forbid 47 = .ok (.iload_n 3, 1) := by decide +kernel
theorem dX6_forbid_48 : decode cX6_forbid 48 = .ok (.ireturn, 1) := by decide +kernel
theorem dX6_volume_0 : decode cX6_volume 0 = .ok (.iload_n 1, 1) := by decide +kernel
theorem dX6_volume_1 : decode cX6_volume 1 = .ok (.invokestatic 44, 3) := by decide +kernel
theorem dX6_volume_4 : decode cX6_volume 4 = .ok (.ifCond .eq 14, 3) := by decide +kernel
theorem dX6_volume_7 : decode cX6_volume 7 = .ok (.iload_n 2, 1) := by decide +kernel
theorem dX6_volume_8 : decode cX6_volume 8 = .ok (.iconst 1, 1) := by decide +kernel
theorem dX6_volume_9 : decode cX6_volume 9 = .ok (.if_icmp .lt 9, 3) := by decide +kernel
theorem dX6_volume_12 : decode cX6_volume 12 = .ok (.iload_n 2, 1) := by decide +kernel
theorem dX6_volume_13 : decode cX6_volume 13 = .ok (.bipush 99, 2) := by decide +kernel
theorem dX6_volume_15 : decode cX6_volume 15 = .ok (.if_icmp .le 13, 3) := by decide +kernel
theorem dX6_volume_18 : decode cX6_volume 18 = .ok (.new 51, 3) := by decide +kernel
theorem dX6_volume_21 : decode cX6_volume 21 = .ok (.dup, 1) := by decide +kernel
theorem dX6_volume_22 : decode cX6_volume 22 = .ok (.ldc 148, 2) := by decide +kernel
theorem dX6_volume_24 : decode cX6_volume 24 = .ok (.invokespecial 55, 3) := by decide +kernel
theorem dX6_volume_27 : decode cX6_volume 27 = .ok (.athrow, 1) := by decide +kernel
theorem dX6_volume_28 : decode cX6_volume 28 = .ok (.aload_n 0, 1) := by decide +kernel
theorem dX6_volume_29 : decode cX6_volume 29 = .ok (.getfield 150, 3) := by decide +kernel
theorem dX6_volume_32 : decode cX6_volume 32 = .ok (.ifCond .le 31, 3) := by decide +kernel
theorem dX6_volume_35 : decode cX6_volume 35 = .ok (.iload_n 1, 1) := by decide +kernel
theorem dX6_volume_36 : decode cX6_volume 36 = .ok (.aload_n 0, 1) := by decide +kernel
theorem dX6_volume_37 : decode cX6_volume 37 = .ok (.getfield 24, 3) := by decide +kernel
theorem dX6_volume_40 : decode cX6_volume 40 = .ok (.aload_n 0, 1) := by decide +kernel
theorem dX6_volume_41 : decode cX6_volume 41 = .ok (.getfield 150, 3) := by decide +kernel
theorem dX6_volume_44 : decode cX6_volume 44 = .ok (.iconst 1, 1) := by decide +kernel
theorem dX6_volume_45 : decode cX6_volume 45 = .ok (.isub, 1) := by decide +kernel
theorem dX6_volume_46 : decode cX6_volume 46 = .ok (.aaload, 1) := by decide +kernel
theorem dX6_volume_47 : decode cX6_volume 47 = .ok (.getfield 153, 3) := by decide +kernel
theorem dX6_volume_50 : decode cX6_volume 50 = .ok (.if_icmp .gt 13, 3) := by decide +kernel
theorem dX6_volume_53 : decode cX6_volume 53 = .ok (.new 51, 3) := by decide +kernel
theorem dX6_volume_56 : decode cX6_volume 56 = .ok (.dup, 1) := by decide +kernel
theorem dX6_volume_57 : decode cX6_volume 57 = .ok (.ldc 157, 2) := by decide +kernel
theorem dX6_volume_59 : decode cX6_volume 59 = .ok (.invokespecial 55, 3) := by decide +kernel
theorem dX6_volume_62 : decode cX6_volume 62 = .ok (.athrow, 1) := by decide +kernel
theorem dX6_volume_63 : decode cX6_volume 63 = .ok (.aload_n 0, 1) := by decide +kernel
theorem dX6_volume_64 : decode cX6_volume 64 = .ok (.getfield 150, 3) := by decide +kernel
theorem dX6_volume_67 : decode cX6_volume 67 = .ok (.iconst 4, 1) := by decide +kernel
theorem dX6_volume_68 : decode cX6_volume 68 = .ok (.if_icmp .lt 13, 3) := by decide +kernel
theorem dX6_volume_71 : decode cX6_volume 71 = .ok (.new 62, 3) := by decide +kernel
theorem dX6_volume_74 : decode cX6_volume 74 = .ok (.dup, 1) := by decide +kernel
theorem dX6_volume_75 : decode cX6_volume 75 = .ok (.ldc 159, 2) := by decide +kernel
theorem dX6_volume_77 : decode cX6_volume 77 = .ok (.invokespecial 66, 3) := by decide +kernel
theorem dX6_volume_80 : decode cX6_volume 80 = .ok (.athrow, 1) := by decide +kernel
theorem dX6_volume_81 : decode cX6_volume 81 = .ok (.aload_n 0, 1) := by decide +kernel
theorem dX6_volume_82 : decode cX6_volume 82 = .ok (.getfield 24, 3) := by decide +kernel
theorem dX6_volume_85 : decode cX6_volume 85 = .ok (.aload_n 0, 1) := by decide +kernel
theorem dX6_volume_86 : decode cX6_volume 86 = .ok (.getfield 150, 3) := by decide +kernel
theorem dX6_volume_89 : decode cX6_volume 89 = .ok (.aaload, 1) := by decide +kernel
theorem dX6_volume_90 : decode cX6_volume 90 = .ok (.iload_n 1, 1) := by decide +kernel
theorem dX6_volume_91 : decode cX6_volume 91 = .ok (.putfield 153, 3) := by decide +kernel
theorem dX6_volume_94 : decode cX6_volume 94 = .ok (.aload_n 0, 1) := by decide +kernel
theorem dX6_volume_95 : decode cX6_volume 95 = .ok (.getfield 24, 3) := by decide +kernel
theorem dX6_volume_98 : decode cX6_volume 98 = .ok (.aload_n 0, 1) := by decide +kernel
theorem dX6_volume_99 : decode cX6_volume 99 = .ok (.getfield 150, 3) := by decide +kernel
theorem dX6_volume_102 : decode cX6_volume 102 = .ok (.aaload, 1) := by decide +kernel
theorem dX6_volume_103 : decode cX6_volume 103 = .ok (.iload_n 2, 1) := by decide +kernel
theorem dX6_volume_104 : decode cX6_volume 104 = .ok (.putfield 161, 3) := by decide +kernel
theorem dX6_volume_107 : decode cX6_volume 107 = .ok (.aload_n 0, 1) := by decide +kernel
theorem dX6_volume_108 : decode cX6_volume 108 = .ok (.dup, 1) := by decide +kernel
theorem dX6_volume_109 : decode cX6_volume 109 = .ok (.getfield 150, 3) := by decide +kernel
theorem dX6_volume_112 : decode cX6_volume 112 = .ok (.dup_x1, 1) := by decide +kernel
theorem dX6_volume_113 : decode cX6_volume 113 = .ok (.iconst 1, 1) := by decide +kernel
theorem dX6_volume_114 : decode cX6_volume 114 = .ok (.iadd, 1) := by decide +kernel
theorem dX6_volume_115 : decode cX6_volume 115 = .ok (.putfield 150, 3) := by decide +kernel
theorem dX6_volume_118 : decode cX6_volume 118 = .ok (.ireturn, 1) := by decide +kernel
theorem dX6_contributor_0 : decode cX6_contributor 0 = .ok (.iload_n 1, 1) := by decide +kernel
theorem dX6_contributor_1 : decode cX6_contributor 1 = .ok (.iconst 1, 1) := by decide +kernel
theorem dX6_contributor_2 : decode cX6_contributor 2 = .ok (.if_icmp .lt 9, 3) := by decide +kernel
theorem dX6_contributor_5 : decode cX6_contributor 5 = .ok (.iload_n 1, 1) := by decide +kernel
theorem dX6_contributor_6 : decode cX6_contributor 6 = .ok (.bipush 9, 2) := by decide +kernel
theorem dX6_contributor_8 : decode cX6_contributor 8 = .ok (.if_icmp .le 13, 3) := by decide +kernel
theorem dX6_contributor_11 : decode cX6_contributor 11 = .ok (.new 51, 3) := by decide +kernel
theorem dX6_contributor_14 : decode cX6_contributor 14 = .ok (.dup, 1) := by decide +kernel
theorem dX6_contributor_15 : decode cX6_contributor 15 = .ok (.ldc 164, 2) := by decide +kernel
theorem dX6_contributor_17 : decode cX6_contributor 17 = .ok (.invokespecial 55, 3) := by decide +kernel
theorem dX6_contributor_20 : decode cX6_contributor 20 = .ok (.athrow, 1) := by decide +kernel
theorem dX6_contributor_21 : decode cX6_contributor 21 = .ok (.aload_n 0, 1) := by decide +kernel
theorem dX6_contributor_22 : decode cX6_contributor 22 = .ok (.getfield 166, 3) := by decide +kernel
theorem dX6_contributor_25 : decode cX6_contributor 25 = .ok (.bipush 6, 2) := by decide +kernel
theorem dX6_contributor_27 : decode cX6_contributor 27 = .ok (.if_icmp .lt 13, 3) := by decide +kernel
theorem dX6_contributor_30 : decode cX6_contributor 30 = .ok (.new 62, 3) := by decide +kernel
theorem dX6_contributor_33 : decode cX6_contributor 33 = .ok (.dup, 1) := by decide +kernel
theorem dX6_contributor_34 : decode cX6_contributor 34 = .ok (.ldc 169, 2) := by decide +kernel
theorem dX6_contributor_36 : decode cX6_contributor 36 = .ok (.invokespecial 66, 3) := by decide +kernel
theorem dX6_contributor_39 : decode cX6_contributor 39 = .ok (.athrow, 1) := by decide +kernel
theorem dX6_contributor_40 : decode cX6_contributor 40 = .ok (.aload_n 0, 1) := by decide +kernel
theorem dX6_contributor_41 : decode cX6_contributor 41 = .ok (.getfield 30, 3) := by decide +kernel
theorem dX6_contributor_44 : decode cX6_contributor 44 = .ok (.aload_n 0, 1) := by decide +kernel
theorem dX6_contributor_45 : decode cX6_contributor 45 = .ok (.getfield 166, 3) := by decide +kernel
theorem dX6_contributor_48 : decode cX6_contributor 48 = .ok (.aaload, 1) := by decide +kernel
theorem dX6_contributor_49 : decode cX6_contributor 49 = .ok (.iload_n 1, 1) := by decide +kernel
theorem dX6_contributor_50 : decode cX6_contributor 50 = .ok (.putfield 171, 3) := by decide +kernel
theorem dX6_contributor_53 : decode cX6_contributor 53 = .ok (.aload_n 0, 1) := by decide +kernel
theorem dX6_contributor_54 : decode cX6_contributor 54 = .ok (.dup, 1) := by decide +kernel
theorem dX6_contributor_55 : decode cX6_contributor 55 = .ok (.getfield 166, 3) := by decide +kernel
theorem dX6_contributor_58 : decode cX6_contributor 58 = .ok (.dup_x1, 1) := by decide +kernel
theorem dX6_contributor_59 : decode cX6_contributor 59 = .ok (.iconst 1, 1) := by decide +kernel
theorem dX6_contributor_60 : decode cX6_contributor 60 = .ok (.iadd, 1) := by decide +kernel
theorem dX6_contributor_61 : decode cX6_contributor 61 = .ok (.putfield 166, 3) := by decide +kernel
theorem dX6_contributor_64 : decode cX6_contributor 64 = .ok (.ireturn, 1) := by decide +kernel
theorem dX6_quarrel_0 : decode cX6_quarrel 0 = .ok (.aload_n 0, 1) := by decide +kernel
theorem dX6_quarrel_1 : decode cX6_quarrel 1 = .ok (.iload_n 1, 1) := by decide +kernel
theorem dX6_quarrel_2 : decode cX6_quarrel 2 = .ok (.invokevirtual 174, 3) := by decide +kernel
theorem dX6_quarrel_5 : decode cX6_quarrel 5 = .ok (.aload_n 0, 1) := by decide +kernel
theorem dX6_quarrel_6 : decode cX6_quarrel 6 = .ok (.iload_n 2, 1) := by decide +kernel
theorem dX6_quarrel_7 : decode cX6_quarrel 7 = .ok (.invokevirtual 174, 3) := by decide +kernel
theorem dX6_quarrel_10 : decode cX6_quarrel 10 = .ok (.iload_n 1, 1) := by decide +kernel
theorem dX6_quarrel_11 : decode cX6_quarrel 11 = .ok (.iload_n 2, 1) := by decide +kernel
theorem dX6_quarrel_12 : decode cX6_quarrel 12 = .ok (.if_icmp .ne 13, 3) := by decide +kernel
theorem dX6_quarrel_15 : decode cX6_quarrel 15 = .ok (.new 51, 3) := by decide +kernel
theorem dX6_quarrel_18 : decode cX6_quarrel 18 = .ok (.dup, 1) := by decide +kernel
theorem dX6_quarrel_19 : decode cX6_quarrel 19 = .ok (.ldc 177, 2) := by decide +kernel
theorem dX6_quarrel_21 : decode cX6_quarrel 21 = .ok (.invokespecial 55, 3) := by decide +kernel
theorem dX6_quarrel_24 : decode cX6_quarrel 24 = .ok (.athrow, 1) := by decide +kernel
theorem dX6_quarrel_25 : decode cX6_quarrel 25 = .ok (.aload_n 0, 1) := by decide +kernel
theorem dX6_quarrel_26 : decode cX6_quarrel 26 = .ok (.getfield 30, 3) := by decide +kernel
theorem dX6_quarrel_29 : decode cX6_quarrel 29 = .ok (.iload_n 1, 1) := by decide +kernel
theorem dX6_quarrel_30 : decode cX6_quarrel 30 = .ok (.aaload, 1) := by decide +kernel
theorem dX6_quarrel_31 : decode cX6_quarrel 31 = .ok (.getfield 179, 3) := by decide +kernel
theorem dX6_quarrel_34 : decode cX6_quarrel 34 = .ok (.iload_n 2, 1) := by decide +kernel
theorem dX6_quarrel_35 : decode cX6_quarrel 35 = .ok (.baload, 1) := by decide +kernel
theorem dX6_quarrel_36 : decode cX6_quarrel 36 = .ok (.istore_n 3, 1) := by decide +kernel
theorem dX6_quarrel_37 : decode cX6_quarrel 37 = .ok (.aload_n 0, 1) := by decide +kernel
theorem dX6_quarrel_38 : decode cX6_quarrel 38 = .ok (.getfield 30, 3) := by decide +kernel
theorem dX6_quarrel_41 : decode cX6_quarrel 41 = .ok (.iload_n 1, 1) := by decide +kernel
theorem dX6_quarrel_42 : decode cX6_quarrel 42 = .ok (.aaload, 1) := by decide +kernel
theorem dX6_quarrel_43 : decode cX6_quarrel 43 = .ok (.getfield 179, 3) := by decide +kernel
theorem dX6_quarrel_46 : decode cX6_quarrel 46 = .ok (.iload_n 2, 1) := by decide +kernel
theorem dX6_quarrel_47 : decode cX6_quarrel 47 = .ok (.iconst 1, 1) := by decide +kernel
theorem dX6_quarrel_48 : decode cX6_quarrel 48 = .ok (.bastore, 1) := by decide +kernel
theorem dX6_quarrel_49 : decode cX6_quarrel 49 = .ok (.aload_n 0, 1) := by decide +kernel
theorem dX6_quarrel_50 : decode cX6_quarrel 50 = .ok (.getfield 30, 3) := by decide +kernel
theorem dX6_quarrel_53 : decode cX6_quarrel 53 = .ok (.iload_n 2, 1) := by decide +kernel
theorem dX6_quarrel_54 : decode cX6_quarrel 54 = .ok (.aaload, 1) := by decide +kernel
theorem dX6_quarrel_55 : decode cX6_quarrel 55 = .ok (.getfield 179, 3) := by decide +kernel
theorem dX6_quarrel_58 : decode cX6_quarrel 58 = .ok (.iload_n 1, 1) := by decide +kernel
theorem dX6_quarrel_59 : decode cX6_quarrel 59 = .ok (.iconst 1, 1) := by decide +kernel
theorem dX6_quarrel_60 : decode cX6_quarrel 60 = .ok (.bastore, 1) := by decide +kernel
theorem dX6_quarrel_61 : decode cX6_quarrel 61 = .ok (.iload_n 3, 1) := by decide +kernel
theorem dX6_quarrel_62 : decode cX6_quarrel 62 = .ok (.ireturn, 1) := by decide +kernel
theorem dX6_give_0 : decode cX6_give 0 = .ok (.aload_n 0, 1) := by decide +kernel
theorem dX6_give_1 : decode cX6_give 1 = .ok (.iload_n 1, 1) := by decide +kernel
theorem dX6_give_2 : decode cX6_give 2 = .ok (.invokevirtual 113, 3) := by decide +kernel
theorem dX6_give_5 : decode cX6_give 5 = .ok (.aload_n 0, 1) := by decide +kernel
theorem dX6_give_6 : decode cX6_give 6 = .ok (.iload_n 2, 1) := by decide +kernel
theorem dX6_give_7 : decode cX6_give 7 = .ok (.invokevirtual 174, 3) := by decide +kernel
theorem dX6_give_10 : decode cX6_give 10 = .ok (.aload_n 0, 1) := by decide +kernel
theorem dX6_give_11 : decode cX6_give 11 = .ok (.getfield 18, 3) := by decide +kernel
theorem dX6_give_14 : decode cX6_give 14 = .ok (.iload_n 1, 1) := by decide +kernel
theorem dX6_give_15 : decode cX6_give 15 = .ok (.aaload, 1) := by decide +kernel
theorem dX6_give_16 : decode cX6_give 16 = .ok (.astore_n 3, 1) := by decide +kernel
theorem dX6_give_17 : decode cX6_give 17 = .ok (.aload_n 0, 1) := by decide +kernel
theorem dX6_give_18 : decode cX6_give 18 = .ok (.getfield 30, 3) := by decide +kernel
theorem dX6_give_21 : decode cX6_give 21 = .ok (.iload_n 2, 1) := by decide +kernel
theorem dX6_give_22 : decode cX6_give 22 = .ok (.aaload, 1) := by decide +kernel
theorem dX6_give_23 : decode cX6_give 23 = .ok (.astore 4, 2) := by decide +kernel
theorem dX6_give_25 : decode cX6_give 25 = .ok (.aload_n 0, 1) := by decide +kernel
theorem dX6_give_26 : decode cX6_give 26 = .ok (.aload_n 3, 1) := by decide +kernel
theorem dX6_give_27 : decode cX6_give 27 = .ok (.invokevirtual 182, 3) := by decide +kernel
theorem dX6_give_30 : decode cX6_give 30 = .ok (.ifCond .eq 21, 3) := by decide +kernel
theorem dX6_give_33 : decode cX6_give 33 = .ok (.aload 4, 2) := by decide +kernel
theorem dX6_give_35 : decode cX6_give 35 = .ok (.getfield 186, 3) := by decide +kernel
theorem dX6_give_38 : decode cX6_give 38 = .ok (.ifCond .ne 13, 3) := by decide +kernel
theorem dX6_give_41 : decode cX6_give 41 = .ok (.aload_n 0, 1) := by decide +kernel
theorem dX6_give_42 : decode cX6_give 42 = .ok (.aload_n 3, 1) := by decide +kernel
theorem dX6_give_43 : decode cX6_give 43 = .ok (.aload 4, 2) := by decide +kernel
theorem dX6_give_45 : decode cX6_give 45 = .ok (.invokevirtual 189, 3) := by decide +kernel
theorem dX6_give_48 : decode cX6_give 48 = .ok (.ifCond .eq 13, 3) := by decide +kernel
theorem dX6_give_51 : decode cX6_give 51 = .ok (.new 62, 3) := by decide +kernel
theorem dX6_give_54 : decode cX6_give 54 = .ok (.dup, 1) := by decide +kernel
theorem dX6_give_55 : decode cX6_give 55 = .ok (.ldc 193, 2) := by decide +kernel
theorem dX6_give_57 : decode cX6_give 57 = .ok (.invokespecial 66, 3) := by decide +kernel
theorem dX6_give_60 : decode cX6_give 60 = .ok (.athrow, 1) := by decide +kernel
theorem dX6_give_61 : decode cX6_give 61 = .ok (.aload_n 3, 1) := by decide +kernel
theorem dX6_give_62 : decode cX6_give 62 = .ok (.iload_n 2, 1) := by decide +kernel
theorem dX6_give_63 : decode cX6_give 63 = .ok (.putfield 195, 3) := by decide +kernel
theorem dX6_give_66 : decode cX6_give 66 = .ok (.aload 4, 2) := by decide +kernel
theorem dX6_give_68 : decode cX6_give 68 = .ok (.iload_n 1, 1) := by decide +kernel
theorem dX6_give_69 : decode cX6_give 69 = .ok (.invokevirtual 198, 3) := by decide +kernel
theorem dX6_give_72 : decode cX6_give 72 = .ok (.aload 4, 2) := by decide +kernel
theorem dX6_give_74 : decode cX6_give 74 = .ok (.getfield 201, 3) := by decide +kernel
theorem dX6_give_77 : decode cX6_give 77 = .ok (.iconst 1, 1) := by decide +kernel
theorem dX6_give_78 : decode cX6_give 78 = .ok (.if_icmp .ne 9, 3) := by decide +kernel
theorem dX6_give_81 : decode cX6_give 81 = .ok (.aload_n 0, 1) := by decide +kernel
theorem dX6_give_82 : decode cX6_give 82 = .ok (.aload 4, 2) := by decide +kernel
theorem dX6_give_84 : decode cX6_give 84 = .ok (.invokevirtual 204, 3) := by decide +kernel
theorem dX6_give_87 : decode cX6_give 87 = .ok (.aload 4, 2) := by decide +kernel
theorem dX6_give_89 : decode cX6_give 89 = .ok (.getfield 201, 3) := by decide +kernel
theorem dX6_give_92 : decode cX6_give 92 = .ok (.ireturn, 1) := by decide +kernel
theorem dX6_die_0 : decode cX6_die 0 = .ok (.aload_n 0, 1) := by decide +kernel
theorem dX6_die_1 : decode cX6_die 1 = .ok (.iload_n 1, 1) := by decide +kernel
theorem dX6_die_2 : decode cX6_die 2 = .ok (.invokevirtual 174, 3) := by decide +kernel
theorem dX6_die_5 : decode cX6_die 5 = .ok (.aload_n 0, 1) := by decide +kernel
theorem dX6_die_6 : decode cX6_die 6 = .ok (.getfield 30, 3) := by decide +kernel
theorem dX6_die_9 : decode cX6_die 9 = .ok (.iload_n 1, 1) := by decide +kernel
theorem dX6_die_10 : decode cX6_die 10 = .ok (.aaload, 1) := by decide +kernel
theorem dX6_die_11 : decode cX6_die 11 = .ok (.astore_n 2, 1) := by decide +kernel
theorem dX6_die_12 : decode cX6_die 12 = .ok (.aload_n 2, 1) := by decide +kernel
theorem dX6_die_13 : decode cX6_die 13 = .ok (.getfield 186, 3) := by decide +kernel
theorem dX6_die_16 : decode cX6_die 16 = .ok (.ifCond .eq 13, 3) := by decide +kernel
theorem dX6_die_19 : decode cX6_die 19 = .ok (.new 62, 3) := by decide +kernel
theorem dX6_die_22 : decode cX6_die 22 = .ok (.dup, 1) := by decide +kernel
theorem dX6_die_23 : decode cX6_die 23 = .ok (.ldc 208, 2) := by decide +kernel
theorem dX6_die_25 : decode cX6_die 25 = .ok (.invokespecial 66, 3) := by decide +kernel
theorem dX6_die_28 : decode cX6_die 28 = .ok (.athrow, 1) := by decide +kernel
theorem dX6_die_29 : decode cX6_die 29 = .ok (.aload_n 2, 1) := by decide +kernel
theorem dX6_die_30 : decode cX6_die 30 = .ok (.getfield 201, 3) := by decide +kernel
theorem dX6_die_33 : decode cX6_die 33 = .ok (.istore_n 3, 1) := by decide +kernel
theorem dX6_die_34 : decode cX6_die 34 = .ok (.iconst 0, 1) := by decide +kernel
theorem dX6_die_35 : decode cX6_die 35 = .ok (.istore 4, 2) := by decide +kernel
theorem dX6_die_37 : decode cX6_die 37 = .ok (.iload 4, 2) := by decide +kernel
theorem dX6_die_39 : decode cX6_die 39 = .ok (.iload_n 3, 1) := by decide +kernel
theorem dX6_die_40 : decode cX6_die 40 = .ok (.if_icmp .ge 35, 3) := by decide +kernel
theorem dX6_die_43 : decode cX6_die 43 = .ok (.aload_n 0, 1) := by decide +kernel
theorem dX6_die_44 : decode cX6_die 44 = .ok (.getfield 18, 3) := by decide +kernel
theorem dX6_die_47 : decode cX6_die 47 = .ok (.aload_n 2, 1) := by decide +kernel
theorem dX6_die_48 : decode cX6_die 48 = .ok (.getfield 210, 3) := by decide +kernel
theorem dX6_die_51 : decode cX6_die 51 = .ok (.iload 4, 2) := by decide +kernel
theorem dX6_die_53 : decode cX6_die 53 = .ok (.iaload, 1) := by decide +kernel
theorem dX6_die_54 : decode cX6_die 54 = .ok (.aaload, 1) := by decide +kernel
theorem dX6_die_55 : decode cX6_die 55 = .ok (.astore 5, 2) := by decide +kernel
theorem dX6_die_57 : decode cX6_die 57 = .ok (.aload 5, 2) := by decide +kernel
theorem dX6_die_59 : decode cX6_die 59 = .ok (.iconst (-1), 1) := by decide +kernel
theorem dX6_die_60 : decode cX6_die 60 = .ok (.putfield 195, 3) := by decide +kernel
theorem dX6_die_63 : decode cX6_die 63 = .ok (.aload 5, 2) := by decide +kernel
theorem dX6_die_65 : decode cX6_die 65 = .ok (.iconst (-1), 1) := by decide +kernel
theorem dX6_die_66 : decode cX6_die 66 = .ok (.putfield 213, 3) := by decide +kernel
theorem dX6_die_69 : decode cX6_die 69 = .ok (.iinc 4 1, 3) := by decide +kernel
theorem dX6_die_72 : decode cX6_die 72 = .ok (.goto (-35), 3) := by decide +kernel
theorem dX6_die_75 : decode cX6_die 75 = .ok (.aload_n 2, 1) := by decide +kernel
theorem dX6_die_76 : decode cX6_die 76 = .ok (.iconst 0, 1) := by decide +kernel
theorem dX6_die_77 : decode cX6_die 77 = .ok (.putfield 201, 3) := by decide +kernel
theorem dX6_die_80 : decode cX6_die 80 = .ok (.aload_n 2, 1) := by decide +kernel
theorem dX6_die_81 : decode cX6_die 81 = .ok (.iconst 1, 1) := by decide +kernel
theorem dX6_die_82 : decode cX6_die 82 = .ok (.putfield 186, 3) := by decide +kernel
theorem dX6_die_85 : decode cX6_die 85 = .ok (.iload_n 3, 1) := by decide +kernel
theorem dX6_die_86 : decode cX6_die 86 = .ok (.ireturn, 1) := by decide +kernel
theorem dX6_pass_0 : decode cX6_pass 0 = .ok (.iload_n 1, 1) := by decide +kernel
theorem dX6_pass_1 : decode cX6_pass 1 = .ok (.iconst 1, 1) := by decide +kernel
theorem dX6_pass_2 : decode cX6_pass 2 = .ok (.if_icmp .lt 9, 3) := by decide +kernel
theorem dX6_pass_5 : decode cX6_pass 5 = .ok (.iload_n 1, 1) := by decide +kernel
theorem dX6_pass_6 : decode cX6_pass 6 = .ok (.bipush 50, 2) := by decide +kernel
theorem dX6_pass_8 : decode cX6_pass 8 = .ok (.if_icmp .le 13, 3) := by decide +kernel
theorem dX6_pass_11 : decode cX6_pass 11 = .ok (.new 51, 3) := by decide +kernel
theorem dX6_pass_14 : decode cX6_pass 14 = .ok (.dup, 1) := by decide +kernel
theorem dX6_pass_15 : decode cX6_pass 15 = .ok (.ldc 216, 2) := by decide +kernel
theorem dX6_pass_17 : decode cX6_pass 17 = .ok (.invokespecial 55, 3) := by decide +kernel
theorem dX6_pass_20 : decode cX6_pass 20 = .ok (.athrow, 1) := by decide +kernel
theorem dX6_pass_21 : decode cX6_pass 21 = .ok (.iconst 0, 1) := by decide +kernel
theorem dX6_pass_22 : decode cX6_pass 22 = .ok (.istore_n 2, 1) := by decide +kernel
theorem dX6_pass_23 : decode cX6_pass 23 = .ok (.iconst 0, 1) := by decide +kernel
theorem dX6_pass_24 : decode cX6_pass 24 = .ok (.istore_n 3, 1) := by decide +kernel
theorem dX6_pass_25 : decode cX6_pass 25 = .ok (.iload_n 3, 1) := by decide +kernel
theorem dX6_pass_26 : decode cX6_pass 26 = .ok (.iload_n 1, 1) := by decide +kernel
theorem dX6_pass_27 : decode cX6_pass 27 = .ok (.if_icmp .ge 54, 3) := by decide +kernel
theorem dX6_pass_30 : decode cX6_pass 30 = .ok (.aload_n 0, 1) := by decide +kernel
theorem dX6_pass_31 : decode cX6_pass 31 = .ok (.dup, 1) := by decide +kernel
theorem dX6_pass_32 : decode cX6_pass 32 = .ok (.getfield 218, 3) := by decide +kernel
theorem dX6_pass_35 : decode cX6_pass 35 = .ok (.iconst 1, 1) := by decide +kernel
theorem dX6_pass_36 : decode cX6_pass 36 = .ok (.iadd, 1) := by decide +kernel
theorem dX6_pass_37 : decode cX6_pass 37 = .ok (.putfield 218, 3) := by decide +kernel
theorem dX6_pass_40 : decode cX6_pass 40 = .ok (.iconst 0, 1) := by decide +kernel
theorem dX6_pass_41 : decode cX6_pass 41 = .ok (.istore 4, 2) := by decide +kernel
theorem dX6_pass_43 : decode cX6_pass 43 = .ok (.iload 4, 2) := by decide +kernel
theorem dX6_pass_45 : decode cX6_pass 45 = .ok (.aload_n 0, 1) := by decide +kernel
theorem dX6_pass_46 : decode cX6_pass 46 = .ok (.getfield 166, 3) := by decide +kernel
theorem dX6_pass_49 : decode cX6_pass 49 = .ok (.if_icmp .ge 26, 3) := by decide +kernel
theorem dX6_pass_52 : decode cX6_pass 52 = .ok (.aload_n 0, 1) := by decide +kernel
theorem dX6_pass_53 : decode cX6_pass 53 = .ok (.aload_n 0, 1) := by decide +kernel
theorem dX6_pass_54 : decode cX6_pass 54 = .ok (.getfield 30, 3) := by decide +kernel
theorem dX6_pass_57 : decode cX6_pass 57 = .ok (.iload 4, 2) := by decide +kernel
theorem dX6_pass_59 : decode cX6_pass 59 = .ok (.aaload, 1) := by decide +kernel
theorem dX6_pass_60 : decode cX6_pass 60 = .ok (.invokevirtual 221, 3) := by decide +kernel
theorem dX6_pass_63 : decode cX6_pass 63 = .ok (.ifCond .eq 6, 3) := by decide +kernel
theorem dX6_pass_66 : decode cX6_pass 66 = .ok (.iinc 2 1, 3) := by decide +kernel
theorem dX6_pass_69 : decode cX6_pass 69 = .ok (.iinc 4 1, 3) := by decide +kernel
theorem dX6_pass_72 : decode cX6_pass 72 = .ok (.goto (-29), 3) := by decide +kernel
theorem dX6_pass_75 : decode cX6_pass 75 = .ok (.iinc 3 1, 3) := by decide +kernel
theorem dX6_pass_78 : decode cX6_pass 78 = .ok (.goto (-53), 3) := by decide +kernel
theorem dX6_pass_81 : decode cX6_pass 81 = .ok (.iload_n 2, 1) := by decide +kernel
theorem dX6_pass_82 : decode cX6_pass 82 = .ok (.ireturn, 1) := by decide +kernel
theorem dX6_print_0 : decode cX6_print 0 = .ok (.aload_n 0, 1) := by decide +kernel
theorem dX6_print_1 : decode cX6_print 1 = .ok (.iload_n 1, 1) := by decide +kernel
theorem dX6_print_2 : decode cX6_print 2 = .ok (.invokevirtual 225, 3) := by decide +kernel
theorem dX6_print_5 : decode cX6_print 5 = .ok (.iload_n 1, 1) := by decide +kernel
theorem dX6_print_6 : decode cX6_print 6 = .ok (.aload_n 0, 1) := by decide +kernel
theorem dX6_print_7 : decode cX6_print 7 = .ok (.getfield 74, 3) := by decide +kernel
theorem dX6_print_10 : decode cX6_print 10 = .ok (.if_icmp .eq 13, 3) := by decide +kernel
theorem dX6_print_13 : decode cX6_print 13 = .ok (.new 62, 3) := by decide +kernel
theorem dX6_print_16 : decode cX6_print 16 = .ok (.dup, 1) := by decide +kernel
theorem dX6_print_17 : decode cX6_print 17 = .ok (.ldc 228, 2) := by decide +kernel
theorem dX6_print_19 : decode cX6_print 19 = .ok (.invokespecial 66, 3) := by decide +kernel
theorem dX6_print_22 : decode cX6_print 22 = .ok (.athrow, 1) := by decide +kernel
theorem dX6_print_23 : decode cX6_print 23 = .ok (.aload_n 0, 1) := by decide +kernel
theorem dX6_print_24 : decode cX6_print 24 = .ok (.dup, 1) := by decide +kernel
theorem dX6_print_25 : decode cX6_print 25 = .ok (.getfield 74, 3) := by decide +kernel
theorem dX6_print_28 : decode cX6_print 28 = .ok (.iconst 1, 1) := by decide +kernel
theorem dX6_print_29 : decode cX6_print 29 = .ok (.iadd, 1) := by decide +kernel
theorem dX6_print_30 : decode cX6_print 30 = .ok (.putfield 74, 3) := by decide +kernel
theorem dX6_print_33 : decode cX6_print 33 = .ok (.aload_n 0, 1) := by decide +kernel
theorem dX6_print_34 : decode cX6_print 34 = .ok (.iload_n 1, 1) := by decide +kernel
theorem dX6_print_35 : decode cX6_print 35 = .ok (.invokevirtual 230, 3) := by decide +kernel
theorem dX6_print_38 : decode cX6_print 38 = .ok (.istore_n 2, 1) := by decide +kernel
theorem dX6_print_39 : decode cX6_print 39 = .ok (.aload_n 0, 1) := by decide +kernel
theorem dX6_print_40 : decode cX6_print 40 = .ok (.invokevirtual 234, 3) := by decide +kernel
theorem dX6_print_43 : decode cX6_print 43 = .ok (.iload_n 2, 1) := by decide +kernel
theorem dX6_print_44 : decode cX6_print 44 = .ok (.ireturn, 1) := by decide +kernel
theorem dX6_supplement_0 : decode cX6_supplement 0 = .ok (.aload_n 0, 1) := by decide +kernel
theorem dX6_supplement_1 : decode cX6_supplement 1 = .ok (.getfield 74, 3) := by decide +kernel
theorem dX6_supplement_4 : decode cX6_supplement 4 = .ok (.ifCond .ne 13, 3) := by decide +kernel
theorem dX6_supplement_7 : decode cX6_supplement 7 = .ok (.new 62, 3) := by decide +kernel
theorem dX6_supplement_10 : decode cX6_supplement 10 = .ok (.dup, 1) := by decide +kernel
theorem dX6_supplement_11 : decode cX6_supplement 11 = .ok (.ldc 237, 2) := by decide +kernel
theorem dX6_supplement_13 : decode cX6_supplement 13 = .ok (.invokespecial 66, 3) := by decide +kernel
theorem dX6_supplement_16 : decode cX6_supplement 16 = .ok (.athrow, 1) := by decide +kernel
theorem dX6_supplement_17 : decode cX6_supplement 17 = .ok (.aload_n 0, 1) := by decide +kernel
theorem dX6_supplement_18 : decode cX6_supplement 18 = .ok (.iconst 0, 1) := by decide +kernel
theorem dX6_supplement_19 : decode cX6_supplement 19 = .ok (.invokevirtual 230, 3) := by decide +kernel
theorem dX6_supplement_22 : decode cX6_supplement 22 = .ok (.istore_n 1, 1) := by decide +kernel
theorem dX6_supplement_23 : decode cX6_supplement 23 = .ok (.aload_n 0, 1) := by decide +kernel
theorem dX6_supplement_24 : decode cX6_supplement 24 = .ok (.invokevirtual 234, 3) := by decide +kernel
theorem dX6_supplement_27 : decode cX6_supplement 27 = .ok (.bipush 100, 2) := by decide +kernel
theorem dX6_supplement_29 : decode cX6_supplement 29 = .ok (.iload_n 1, 1) := by decide +kernel
theorem dX6_supplement_30 : decode cX6_supplement 30 = .ok (.imul, 1) := by decide +kernel
theorem dX6_supplement_31 : decode cX6_supplement 31 = .ok (.aload_n 0, 1) := by decide +kernel
theorem dX6_supplement_32 : decode cX6_supplement 32 = .ok (.invokevirtual 239, 3) := by decide +kernel
theorem dX6_supplement_35 : decode cX6_supplement 35 = .ok (.iadd, 1) := by decide +kernel
theorem dX6_supplement_36 : decode cX6_supplement 36 = .ok (.aload_n 0, 1) := by decide +kernel
theorem dX6_supplement_37 : decode cX6_supplement 37 = .ok (.invokevirtual 243, 3) := by decide +kernel
theorem dX6_supplement_40 : decode cX6_supplement 40 = .ok (.iadd, 1) := by decide +kernel
theorem dX6_supplement_41 : decode cX6_supplement 41 = .ok (.ireturn, 1) := by decide +kernel
theorem dX6_month_0 : decode cX6_month 0 = .ok (.aload_n 0, 1) := by decide +kernel
theorem dX6_month_1 : decode cX6_month 1 = .ok (.getfield 218, 3) := by decide +kernel
theorem dX6_month_4 : decode cX6_month 4 = .ok (.ireturn, 1) := by decide +kernel
theorem dX6_at_0 : decode cX6_at 0 = .ok (.iload_n 1, 1) := by decide +kernel
theorem dX6_at_1 : decode cX6_at 1 = .ok (.ifCond .ge 13, 3) := by decide +kernel
theorem dX6_at_4 : decode cX6_at 4 = .ok (.new 246, 3) := by decide +kernel
theorem dX6_at_7 : decode cX6_at 7 = .ok (.dup, 1) := by decide +kernel
theorem dX6_at_8 : decode cX6_at 8 = .ok (.ldc 248, 2) := by decide +kernel
theorem dX6_at_10 : decode cX6_at 10 = .ok (.invokespecial 250, 3) := by decide +kernel
theorem dX6_at_13 : decode cX6_at 13 = .ok (.athrow, 1) := by decide +kernel
theorem dX6_at_14 : decode cX6_at 14 = .ok (.iconst 0, 1) := by decide +kernel
theorem dX6_at_15 : decode cX6_at 15 = .ok (.istore_n 2, 1) := by decide +kernel
theorem dX6_at_16 : decode cX6_at 16 = .ok (.iload_n 2, 1) := by decide +kernel
theorem dX6_at_17 : decode cX6_at 17 = .ok (.aload_n 0, 1) := by decide +kernel
theorem dX6_at_18 : decode cX6_at 18 = .ok (.getfield 89, 3) := by decide +kernel
theorem dX6_at_21 : decode cX6_at 21 = .ok (.if_icmp .ge 20, 3) := by decide +kernel
theorem dX6_at_24 : decode cX6_at 24 = .ok (.aload_n 0, 1) := by decide +kernel
theorem dX6_at_25 : decode cX6_at 25 = .ok (.iload_n 2, 1) := by decide +kernel
theorem dX6_at_26 : decode cX6_at 26 = .ok (.invokevirtual 251, 3) := by decide +kernel
theorem dX6_at_29 : decode cX6_at 29 = .ok (.iload_n 1, 1) := by decide +kernel
theorem dX6_at_30 : decode cX6_at 30 = .ok (.if_icmp .ne 5, 3) := by decide +kernel
theorem dX6_at_33 : decode cX6_at 33 = .ok (.iload_n 2, 1) := by decide +kernel
theorem dX6_at_34 : decode cX6_at 34 = .ok (.ireturn, 1) := by decide +kernel
theorem dX6_at_35 : decode cX6_at 35 = .ok (.iinc 2 1, 3) := by decide +kernel
theorem dX6_at_38 : decode cX6_at 38 = .ok (.goto (-22), 3) := by decide +kernel
theorem dX6_at_41 : decode cX6_at 41 = .ok (.iconst (-1), 1) := by decide +kernel
theorem dX6_at_42 : decode cX6_at 42 = .ok (.ireturn, 1) := by decide +kernel
theorem dX6_about_0 : decode cX6_about 0 = .ok (.aload_n 0, 1) := by decide +kernel
theorem dX6_about_1 : decode cX6_about 1 = .ok (.iload_n 1, 1) := by decide +kernel
theorem dX6_about_2 : decode cX6_about 2 = .ok (.invokevirtual 113, 3) := by decide +kernel
theorem dX6_about_5 : decode cX6_about 5 = .ok (.iload_n 2, 1) := by decide +kernel
theorem dX6_about_6 : decode cX6_about 6 = .ok (.ifCond .lt 8, 3) := by decide +kernel
theorem dX6_about_9 : decode cX6_about 9 = .ok (.iload_n 2, 1) := by decide +kernel
theorem dX6_about_10 : decode cX6_about 10 = .ok (.iconst 4, 1) := by decide +kernel
theorem dX6_about_11 : decode cX6_about 11 = .ok (.if_icmp .le 13, 3) := by decide +kernel
theorem dX6_about_14 : decode cX6_about 14 = .ok (.new 51, 3) := by decide +kernel
theorem dX6_about_17 : decode cX6_about 17 = .ok (.dup, 1) := by decide +kernel
theorem dX6_about_18 : decode cX6_about 18 = .ok (.ldc 254, 2) := by decide +kernel
theorem dX6_about_20 : decode cX6_about 20 = .ok (.invokespecial 55, 3) := by decide +kernel
theorem dX6_about_23 : decode cX6_about 23 = .ok (.athrow, 1) := by decide +kernel
theorem dX6_about_24 : decode cX6_about 24 = .ok (.aload_n 0, 1) := by decide +kernel
theorem dX6_about_25 : decode cX6_about 25 = .ok (.getfield 18, 3) := by decide +kernel
theorem dX6_about_28 : decode cX6_about 28 = .ok (.iload_n 1, 1) := by decide +kernel
theorem dX6_about_29 : decode cX6_about 29 = .ok (.aaload, 1) := by decide +kernel
theorem dX6_about_30 : decode cX6_about 30 = .ok (.astore_n 3, 1) := by decide +kernel
theorem dX6_about_31 : decode cX6_about 31 = .ok (.iload_n 2, 1) := by decide +kernel
theorem dX6_about_32 : decode cX6_about 32 = .ok (.tableswitch 57 0 3 #[32, 37, 46, 52], 32) := by decide +kernel
theorem dX6_about_64 : decode cX6_about 64 = .ok (.aload_n 3, 1) := by decide +kernel
theorem dX6_about_65 : decode cX6_about 65 = .ok (.invokevirtual 256, 3) := by decide +kernel
theorem dX6_about_68 : decode cX6_about 68 = .ok (.ireturn, 1) := by decide +kernel
theorem dX6_about_69 : decode cX6_about 69 = .ok (.aload_n 0, 1) := by decide +kernel
theorem dX6_about_70 : decode cX6_about 70 = .ok (.aload_n 3, 1) := by decide +kernel
theorem dX6_about_71 : decode cX6_about 71 = .ok (.getfield 104, 3) := by decide +kernel
theorem dX6_about_74 : decode cX6_about 74 = .ok (.invokevirtual 259, 3) := by decide +kernel
theorem dX6_about_77 : decode cX6_about 77 = .ok (.ireturn, 1) := by decide +kernel
theorem dX6_about_78 : decode cX6_about 78 = .ok (.aload_n 0, 1) := by decide +kernel
theorem dX6_about_79 : decode cX6_about 79 = .ok (.iload_n 1, 1) := by decide +kernel
theorem dX6_about_80 : decode cX6_about 80 = .ok (.invokevirtual 263, 3) := by decide +kernel
theorem dX6_about_83 : decode cX6_about 83 = .ok (.ireturn, 1) := by decide +kernel
theorem dX6_about_84 : decode cX6_about 84 = .ok (.aload_n 3, 1) := by decide +kernel
theorem dX6_about_85 : decode cX6_about 85 = .ok (.getfield 195, 3) := by decide +kernel
theorem dX6_about_88 : decode cX6_about 88 = .ok (.ireturn, 1) := by decide +kernel
theorem dX6_about_89 : decode cX6_about 89 = .ok (.aload_n 3, 1) := by decide +kernel
theorem dX6_about_90 : decode cX6_about 90 = .ok (.getfield 213, 3) := by decide +kernel
theorem dX6_about_93 : decode cX6_about 93 = .ok (.ireturn, 1) := by decide +kernel
theorem dX6_struck_0 : decode cX6_struck 0 = .ok (.iconst 0, 1) := by decide +kernel
theorem dX6_struck_1 : decode cX6_struck 1 = .ok (.istore_n 1, 1) := by decide +kernel
theorem dX6_struck_2 : decode cX6_struck 2 = .ok (.iconst 0, 1) := by decide +kernel
theorem dX6_struck_3 : decode cX6_struck 3 = .ok (.istore_n 2, 1) := by decide +kernel
theorem dX6_struck_4 : decode cX6_struck 4 = .ok (.iload_n 2, 1) := by decide +kernel
theorem dX6_struck_5 : decode cX6_struck 5 = .ok (.aload_n 0, 1) := by decide +kernel
theorem dX6_struck_6 : decode cX6_struck 6 = .ok (.getfield 89, 3) := by decide +kernel
theorem dX6_struck_9 : decode cX6_struck 9 = .ok (.if_icmp .ge 24, 3) := by decide +kernel
theorem dX6_struck_12 : decode cX6_struck 12 = .ok (.iload_n 1, 1) := by decide +kernel
theorem dX6_struck_13 : decode cX6_struck 13 = .ok (.aload_n 0, 1) := by decide +kernel
theorem dX6_struck_14 : decode cX6_struck 14 = .ok (.getfield 18, 3) := by decide +kernel
theorem dX6_struck_17 : decode cX6_struck 17 = .ok (.iload_n 2, 1) := by decide +kernel
theorem dX6_struck_18 : decode cX6_struck 18 = .ok (.aaload, 1) := by decide +kernel
theorem dX6_struck_19 : decode cX6_struck 19 = .ok (.getstatic 266, 3) := by decide +kernel
theorem dX6_struck_22 : decode cX6_struck 22 = .ok (.invokevirtual 272, 3) := by decide +kernel
theorem dX6_struck_25 : decode cX6_struck 25 = .ok (.iadd, 1) := by decide +kernel
theorem dX6_struck_26 : decode cX6_struck 26 = .ok (.istore_n 1, 1) := by decide +kernel
theorem dX6_struck_27 : decode cX6_struck 27 = .ok (.iinc 2 1, 3) := by decide +kernel
theorem dX6_struck_30 : decode cX6_struck 30 = .ok (.goto (-26), 3) := by decide +kernel
theorem dX6_struck_33 : decode cX6_struck 33 = .ok (.iload_n 1, 1) := by decide +kernel
theorem dX6_struck_34 : decode cX6_struck 34 = .ok (.ireturn, 1) := by decide +kernel
theorem dX6_errata_0 : decode cX6_errata 0 = .ok (.aload_n 0, 1) := by decide +kernel
theorem dX6_errata_1 : decode cX6_errata 1 = .ok (.iload_n 1, 1) := by decide +kernel
theorem dX6_errata_2 : decode cX6_errata 2 = .ok (.invokevirtual 174, 3) := by decide +kernel
theorem dX6_errata_5 : decode cX6_errata 5 = .ok (.aload_n 0, 1) := by decide +kernel
theorem dX6_errata_6 : decode cX6_errata 6 = .ok (.getfield 30, 3) := by decide +kernel
theorem dX6_errata_9 : decode cX6_errata 9 = .ok (.iload_n 1, 1) := by decide +kernel
theorem dX6_errata_10 : decode cX6_errata 10 = .ok (.aaload, 1) := by decide +kernel
theorem dX6_errata_11 : decode cX6_errata 11 = .ok (.getfield 276, 3) := by decide +kernel
theorem dX6_errata_14 : decode cX6_errata 14 = .ok (.ireturn, 1) := by decide +kernel
theorem dX6_open_0 : decode cX6_open 0 = .ok (.iconst 0, 1) := by decide +kernel
theorem dX6_open_1 : decode cX6_open 1 = .ok (.istore_n 2, 1) := by decide +kernel
theorem dX6_open_2 : decode cX6_open 2 = .ok (.iconst 0, 1) := by decide +kernel
theorem dX6_open_3 : decode cX6_open 3 = .ok (.istore_n 3, 1) := by decide +kernel
theorem dX6_open_4 : decode cX6_open 4 = .ok (.iload_n 3, 1) := by decide +kernel
theorem dX6_open_5 : decode cX6_open 5 = .ok (.aload_n 0, 1) := by decide +kernel
theorem dX6_open_6 : decode cX6_open 6 = .ok (.getfield 89, 3) := by decide +kernel
theorem dX6_open_9 : decode cX6_open 9 = .ok (.if_icmp .ge 35, 3) := by decide +kernel
theorem dX6_open_12 : decode cX6_open 12 = .ok (.aload_n 0, 1) := by decide +kernel
theorem dX6_open_13 : decode cX6_open 13 = .ok (.getfield 18, 3) := by decide +kernel
theorem dX6_open_16 : decode cX6_open 16 = .ok (.iload_n 3, 1) := by decide +kernel
theorem dX6_open_17 : decode cX6_open 17 = .ok (.aaload, 1) := by decide +kernel
theorem dX6_open_18 : decode cX6_open 18 = .ok (.iload_n 1, 1) := by decide +kernel
theorem dX6_open_19 : decode cX6_open 19 = .ok (.invokevirtual 279, 3) := by decide +kernel
theorem dX6_open_22 : decode cX6_open 22 = .ok (.ifCond .eq 16, 3) := by decide +kernel
theorem dX6_open_25 : decode cX6_open 25 = .ok (.iload_n 2, 1) := by decide +kernel
theorem dX6_open_26 : decode cX6_open 26 = .ok (.aload_n 0, 1) := by decide +kernel
theorem dX6_open_27 : decode cX6_open 27 = .ok (.aload_n 0, 1) := by decide +kernel
theorem dX6_open_28 : decode cX6_open 28 = .ok (.getfield 18, 3) := by decide +kernel
theorem dX6_open_31 : decode cX6_open 31 = .ok (.iload_n 3, 1) := by decide +kernel
theorem dX6_open_32 : decode cX6_open 32 = .ok (.aaload, 1) := by decide +kernel
theorem dX6_open_33 : decode cX6_open 33 = .ok (.invokevirtual 283, 3) := by decide +kernel
theorem dX6_open_36 : decode cX6_open 36 = .ok (.iadd, 1) := by decide +kernel
theorem dX6_open_37 : decode cX6_open 37 = .ok (.istore_n 2, 1) := by decide +kernel
theorem dX6_open_38 : decode cX6_open 38 = .ok (.iinc 3 1, 3) := by decide +kernel
theorem dX6_open_41 : decode cX6_open 41 = .ok (.goto (-37), 3) := by decide +kernel
theorem dX6_open_44 : decode cX6_open 44 = .ok (.iload_n 2, 1) := by decide +kernel
