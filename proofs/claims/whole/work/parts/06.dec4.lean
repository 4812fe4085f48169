theorem dX7_isBarred_25 : decode cX7_isBarred 25 = .ok (.aload_n 0, 1) := by decide +kernel
theorem dX7_isBarred_26 : decode cX7_isBarred 26 = .ok (.getfield 68, 3) := by decide +kernel
theorem dX7_isBarred_29 : decode cX7_isBarred 29 = .ok (.bipush 6, 2) := by decide +kernel
theorem dX7_isBarred_31 : decode cX7_isBarred 31 = .ok (.iload_n 2, 1) := by decide +kernel
theorem dX7_isBarred_32 : decode cX7_isBarred 32 = .ok (.imul, 1) := by decide +kernel
theorem dX7_isBarred_33 : decode cX7_isBarred 33 = .ok (.aload_n 0, 1) := by decide +kernel
theorem dX7_isBarred_34 : decode cX7_isBarred 34 = .ok (.getfield 25, 3) := by decide +kernel
theorem dX7_isBarred_37 : decode cX7_isBarred 37 = .ok (.iload 4, 2) := by decide +kernel
theorem dX7_isBarred_39 : decode cX7_isBarred 39 = .ok (.iaload, 1) := by decide +kernel
theorem dX7_isBarred_40 : decode cX7_isBarred 40 = .ok (.iadd, 1) := by decide +kernel
theorem dX7_isBarred_41 : decode cX7_isBarred 41 = .ok (.baload, 1) := by decide +kernel
theorem dX7_isBarred_42 : decode cX7_isBarred 42 = .ok (.ifCond .eq 7, 3) := by decide +kernel
theorem dX7_isBarred_45 : decode cX7_isBarred 45 = .ok (.iconst 1, 1) := by decide +kernel
theorem dX7_isBarred_46 : decode cX7_isBarred 46 = .ok (.goto 4, 3) := by decide +kernel
theorem dX7_isBarred_49 : decode cX7_isBarred 49 = .ok (.iconst 0, 1) := by decide +kernel
theorem dX7_isBarred_50 : decode cX7_isBarred 50 = .ok (.istore 5, 2) := by decide +kernel
theorem dX7_isBarred_52 : decode cX7_isBarred 52 = .ok (.iload_n 3, 1) := by decide +kernel
theorem dX7_isBarred_53 : decode cX7_isBarred 53 = .ok (.ifCond .ne 28, 3) := by decide +kernel
theorem dX7_isBarred_56 : decode cX7_isBarred 56 = .ok (.iload 5, 2) := by decide +kernel
theorem dX7_isBarred_58 : decode cX7_isBarred 58 = .ok (.ifCond .eq 27, 3) := by decide +kernel
theorem dX7_isBarred_61 : decode cX7_isBarred 61 = .ok (.aload_n 0, 1) := by decide +kernel
theorem dX7_isBarred_62 : decode cX7_isBarred 62 = .ok (.iload_n 1, 1) := by decide +kernel
theorem dX7_isBarred_63 : decode cX7_isBarred 63 = .ok (.iload 4, 2) := by decide +kernel
theorem dX7_isBarred_65 : decode cX7_isBarred 65 = .ok (.invokevirtual 139, 3) := by decide +kernel
theorem dX7_isBarred_68 : decode cX7_isBarred 68 = .ok (.ifCond .ne 13, 3) := by decide +kernel
theorem dX7_isBarred_71 : decode cX7_isBarred 71 = .ok (.aload_n 0, 1) := by decide +kernel
theorem dX7_isBarred_72 : decode cX7_isBarred 72 = .ok (.iload 4, 2) := by decide +kernel
theorem dX7_isBarred_74 : decode cX7_isBarred 74 = .ok (.iload_n 1, 1) := by decide +kernel
theorem dX7_isBarred_75 : decode cX7_isBarred 75 = .ok (.invokevirtual 139, 3) := by decide +kernel
theorem dX7_isBarred_78 : decode cX7_isBarred 78 = .ok (.ifCond .eq 7, 3) := by decide +kernel
theorem dX7_isBarred_81 : decode cX7_isBarred 81 = .ok (.iconst 1, 1) := by decide +kernel
theorem dX7_isBarred_82 : decode cX7_isBarred 82 = .ok (.goto 4, 3) := by decide +kernel
theorem dX7_isBarred_85 : decode cX7_isBarred 85 = .ok (.iconst 0, 1) := by decide +kernel
theorem dX7_isBarred_86 : decode cX7_isBarred 86 = .ok (.istore_n 3, 1) := by decide +kernel
theorem dX7_isBarred_87 : decode cX7_isBarred 87 = .ok (.iinc 4 1, 3) := by decide +kernel
theorem dX7_isBarred_90 : decode cX7_isBarred 90 = .ok (.goto (-85), 3) := by decide +kernel
theorem dX7_isBarred_93 : decode cX7_isBarred 93 = .ok (.iload_n 3, 1) := by decide +kernel
theorem dX7_isBarred_94 : decode cX7_isBarred 94 = .ok (.ireturn, 1) := by decide +kernel
theorem dX7_canBeGiven_0 : decode cX7_canBeGiven 0 = .ok (.aload_n 0, 1) := by decide +kernel
theorem dX7_canBeGiven_1 : decode cX7_canBeGiven 1 = .ok (.iload_n 1, 1) := by decide +kernel
theorem dX7_canBeGiven_2 : decode cX7_canBeGiven 2 = .ok (.invokevirtual 129, 3) := by decide +kernel
theorem dX7_canBeGiven_5 : decode cX7_canBeGiven 5 = .ok (.istore_n 3, 1) := by decide +kernel
theorem dX7_canBeGiven_6 : decode cX7_canBeGiven 6 = .ok (.aload_n 0, 1) := by decide +kernel
theorem dX7_canBeGiven_7 : decode cX7_canBeGiven 7 = .ok (.getfield 19, 3) := by decide +kernel
theorem dX7_canBeGiven_10 : decode cX7_canBeGiven 10 = .ok (.iload_n 1, 1) := by decide +kernel
theorem dX7_canBeGiven_11 : decode cX7_canBeGiven 11 = .ok (.iaload, 1) := by decide +kernel
theorem dX7_canBeGiven_12 : decode cX7_canBeGiven 12 = .ok (.ifCond .le 52, 3) := by decide +kernel
theorem dX7_canBeGiven_15 : decode cX7_canBeGiven 15 = .ok (.iload_n 3, 1) := by decide +kernel
theorem dX7_canBeGiven_16 : decode cX7_canBeGiven 16 = .ok (.aload_n 0, 1) := by decide +kernel
theorem dX7_canBeGiven_17 : decode cX7_canBeGiven 17 = .ok (.getfield 107, 3) := by decide +kernel
theorem dX7_canBeGiven_20 : decode cX7_canBeGiven 20 = .ok (.if_icmp .lt 44, 3) := by decide +kernel
theorem dX7_canBeGiven_23 : decode cX7_canBeGiven 23 = .ok (.aload_n 0, 1) := by decide +kernel
theorem dX7_canBeGiven_24 : decode cX7_canBeGiven 24 = .ok (.getfield 25, 3) := by decide +kernel
theorem dX7_canBeGiven_27 : decode cX7_canBeGiven 27 = .ok (.iload_n 1, 1) := by decide +kernel
theorem dX7_canBeGiven_28 : decode cX7_canBeGiven 28 = .ok (.iaload, 1) := by decide +kernel
theorem dX7_canBeGiven_29 : decode cX7_canBeGiven 29 = .ok (.iconst (-1), 1) := by decide +kernel
theorem dX7_canBeGiven_30 : decode cX7_canBeGiven 30 = .ok (.if_icmp .ne 34, 3) := by decide +kernel
theorem dX7_canBeGiven_33 : decode cX7_canBeGiven 33 = .ok (.aload_n 0, 1) := by decide +kernel
theorem dX7_canBeGiven_34 : decode cX7_canBeGiven 34 = .ok (.getfield 22, 3) := by decide +kernel
theorem dX7_canBeGiven_37 : decode cX7_canBeGiven 37 = .ok (.iload_n 1, 1) := by decide +kernel
theorem dX7_canBeGiven_38 : decode cX7_canBeGiven 38 = .ok (.iaload, 1) := by decide +kernel
theorem dX7_canBeGiven_39 : decode cX7_canBeGiven 39 = .ok (.ifCond .ne 25, 3) := by decide +kernel
theorem dX7_canBeGiven_42 : decode cX7_canBeGiven 42 = .ok (.aload_n 0, 1) := by decide +kernel
theorem dX7_canBeGiven_43 : decode cX7_canBeGiven 43 = .ok (.getfield 65, 3) := by decide +kernel
theorem dX7_canBeGiven_46 : decode cX7_canBeGiven 46 = .ok (.iload_n 2, 1) := by decide +kernel
theorem dX7_canBeGiven_47 : decode cX7_canBeGiven 47 = .ok (.baload, 1) := by decide +kernel
theorem dX7_canBeGiven_48 : decode cX7_canBeGiven 48 = .ok (.ifCond .ne 16, 3) := by decide +kernel
theorem dX7_canBeGiven_51 : decode cX7_canBeGiven 51 = .ok (.aload_n 0, 1) := by decide +kernel
theorem dX7_canBeGiven_52 : decode cX7_canBeGiven 52 = .ok (.iload_n 1, 1) := by decide +kernel
theorem dX7_canBeGiven_53 : decode cX7_canBeGiven 53 = .ok (.iload_n 2, 1) := by decide +kernel
theorem dX7_canBeGiven_54 : decode cX7_canBeGiven 54 = .ok (.invokevirtual 142, 3) := by decide +kernel
theorem dX7_canBeGiven_57 : decode cX7_canBeGiven 57 = .ok (.ifCond .ne 7, 3) := by decide +kernel
theorem dX7_canBeGiven_60 : decode cX7_canBeGiven 60 = .ok (.iconst 1, 1) := by decide +kernel
theorem dX7_canBeGiven_61 : decode cX7_canBeGiven 61 = .ok (.goto 4, 3) := by decide +kernel
theorem dX7_canBeGiven_64 : decode cX7_canBeGiven 64 = .ok (.iconst 0, 1) := by decide +kernel
theorem dX7_canBeGiven_65 : decode cX7_canBeGiven 65 = .ok (.ireturn, 1) := by decide +kernel
theorem dX7_toWrite_0 : decode cX7_toWrite 0 = .ok (.iconst 0, 1) := by decide +kernel
theorem dX7_toWrite_1 : decode cX7_toWrite 1 = .ok (.istore_n 2, 1) := by decide +kernel
theorem dX7_toWrite_2 : decode cX7_toWrite 2 = .ok (.iconst 0, 1) := by decide +kernel
theorem dX7_toWrite_3 : decode cX7_toWrite 3 = .ok (.istore_n 3, 1) := by decide +kernel
theorem dX7_toWrite_4 : decode cX7_toWrite 4 = .ok (.iload_n 3, 1) := by decide +kernel
theorem dX7_toWrite_5 : decode cX7_toWrite 5 = .ok (.aload_n 0, 1) := by decide +kernel
theorem dX7_toWrite_6 : decode cX7_toWrite 6 = .ok (.getfield 78, 3) := by decide +kernel
theorem dX7_toWrite_9 : decode cX7_toWrite 9 = .ok (.if_icmp .ge 37, 3) := by decide +kernel
theorem dX7_toWrite_12 : decode cX7_toWrite 12 = .ok (.iload_n 2, 1) := by decide +kernel
theorem dX7_toWrite_13 : decode cX7_toWrite 13 = .ok (.aload_n 0, 1) := by decide +kernel
theorem dX7_toWrite_14 : decode cX7_toWrite 14 = .ok (.getfield 22, 3) := by decide +kernel
theorem dX7_toWrite_17 : decode cX7_toWrite 17 = .ok (.iload_n 3, 1) := by decide +kernel
theorem dX7_toWrite_18 : decode cX7_toWrite 18 = .ok (.iaload, 1) := by decide +kernel
theorem dX7_toWrite_19 : decode cX7_toWrite 19 = .ok (.iconst 1, 1) := by decide +kernel
theorem dX7_toWrite_20 : decode cX7_toWrite 20 = .ok (.if_icmp .ne 17, 3) := by decide +kernel
theorem dX7_toWrite_23 : decode cX7_toWrite 23 = .ok (.aload_n 0, 1) := by decide +kernel
theorem dX7_toWrite_24 : decode cX7_toWrite 24 = .ok (.getfield 25, 3) := by decide +kernel
theorem dX7_toWrite_27 : decode cX7_toWrite 27 = .ok (.iload_n 3, 1) := by decide +kernel
theorem dX7_toWrite_28 : decode cX7_toWrite 28 = .ok (.iaload, 1) := by decide +kernel
theorem dX7_toWrite_29 : decode cX7_toWrite 29 = .ok (.iload_n 1, 1) := by decide +kernel
theorem dX7_toWrite_30 : decode cX7_toWrite 30 = .ok (.if_icmp .ne 7, 3) := by decide +kernel
theorem dX7_toWrite_33 : decode cX7_toWrite 33 = .ok (.iconst 1, 1) := by decide +kernel
theorem dX7_toWrite_34 : decode cX7_toWrite 34 = .ok (.goto 4, 3) := by decide +kernel
theorem dX7_toWrite_37 : decode cX7_toWrite 37 = .ok (.iconst 0, 1) := by decide +kernel
theorem dX7_toWrite_38 : decode cX7_toWrite 38 = .ok (.iadd, 1) := by decide +kernel
theorem dX7_toWrite_39 : decode cX7_toWrite 39 = .ok (.istore_n 2, 1) := by decide +kernel
theorem dX7_toWrite_40 : decode cX7_toWrite 40 = .ok (.iinc 3 1, 3) := by decide +kernel
theorem dX7_toWrite_43 : decode cX7_toWrite 43 = .ok (.goto (-39), 3) := by decide +kernel
theorem dX7_toWrite_46 : decode cX7_toWrite 46 = .ok (.iload_n 2, 1) := by decide +kernel
theorem dX7_toWrite_47 : decode cX7_toWrite 47 = .ok (.ireturn, 1) := by decide +kernel
theorem dX7_first_0 : decode cX7_first 0 = .ok (.iconst (-1), 1) := by decide +kernel
theorem dX7_first_1 : decode cX7_first 1 = .ok (.istore_n 2, 1) := by decide +kernel
theorem dX7_first_2 : decode cX7_first 2 = .ok (.iconst 0, 1) := by decide +kernel
theorem dX7_first_3 : decode cX7_first 3 = .ok (.istore_n 3, 1) := by decide +kernel
theorem dX7_first_4 : decode cX7_first 4 = .ok (.iload_n 3, 1) := by decide +kernel
theorem dX7_first_5 : decode cX7_first 5 = .ok (.aload_n 0, 1) := by decide +kernel
theorem dX7_first_6 : decode cX7_first 6 = .ok (.getfield 78, 3) := by decide +kernel
theorem dX7_first_9 : decode cX7_first 9 = .ok (.if_icmp .ge 67, 3) := by decide +kernel
theorem dX7_first_12 : decode cX7_first 12 = .ok (.aload_n 0, 1) := by decide +kernel
theorem dX7_first_13 : decode cX7_first 13 = .ok (.getfield 22, 3) := by decide +kernel
theorem dX7_first_16 : decode cX7_first 16 = .ok (.iload_n 3, 1) := by decide +kernel
theorem dX7_first_17 : decode cX7_first 17 = .ok (.iaload, 1) := by decide +kernel
theorem dX7_first_18 : decode cX7_first 18 = .ok (.iconst 1, 1) := by decide +kernel
theorem dX7_first_19 : decode cX7_first 19 = .ok (.if_icmp .ne 17, 3) := by decide +kernel
theorem dX7_first_22 : decode cX7_first 22 = .ok (.aload_n 0, 1) := by decide +kernel
theorem dX7_first_23 : decode cX7_first 23 = .ok (.getfield 25, 3) := by decide +kernel
theorem dX7_first_26 : decode cX7_first 26 = .ok (.iload_n 3, 1) := by decide +kernel
theorem dX7_first_27 : decode cX7_first 27 = .ok (.iaload, 1) := by decide +kernel
theorem dX7_first_28 : decode cX7_first 28 = .ok (.iload_n 1, 1) := by decide +kernel
theorem dX7_first_29 : decode cX7_first 29 = .ok (.if_icmp .ne 7, 3) := by decide +kernel
theorem dX7_first_32 : decode cX7_first 32 = .ok (.iconst 1, 1) := by decide +kernel
theorem dX7_first_33 : decode cX7_first 33 = .ok (.goto 4, 3) := by decide +kernel
theorem dX7_first_36 : decode cX7_first 36 = .ok (.iconst 0, 1) := by decide +kernel
theorem dX7_first_37 : decode cX7_first 37 = .ok (.istore 4, 2) := by decide +kernel
theorem dX7_first_39 : decode cX7_first 39 = .ok (.iload 4, 2) := by decide +kernel
theorem dX7_first_41 : decode cX7_first 41 = .ok (.ifCond .eq 27, 3) := by decide +kernel
theorem dX7_first_44 : decode cX7_first 44 = .ok (.iload_n 2, 1) := by decide +kernel
theorem dX7_first_45 : decode cX7_first 45 = .ok (.iconst (-1), 1) := by decide +kernel
theorem dX7_first_46 : decode cX7_first 46 = .ok (.if_icmp .eq 18, 3) := by decide +kernel
theorem dX7_first_49 : decode cX7_first 49 = .ok (.aload_n 0, 1) := by decide +kernel
theorem dX7_first_50 : decode cX7_first 50 = .ok (.getfield 31, 3) := by decide +kernel
theorem dX7_first_53 : decode cX7_first 53 = .ok (.iload_n 3, 1) := by decide +kernel
theorem dX7_first_54 : decode cX7_first 54 = .ok (.iaload, 1) := by decide +kernel
theorem dX7_first_55 : decode cX7_first 55 = .ok (.aload_n 0, 1) := by decide +kernel
theorem dX7_first_56 : decode cX7_first 56 = .ok (.getfield 31, 3) := by decide +kernel
theorem dX7_first_59 : decode cX7_first 59 = .ok (.iload_n 2, 1) := by decide +kernel
theorem dX7_first_60 : decode cX7_first 60 = .ok (.iaload, 1) := by decide +kernel
theorem dX7_first_61 : decode cX7_first 61 = .ok (.if_icmp .ge 7, 3) := by decide +kernel
theorem dX7_first_64 : decode cX7_first 64 = .ok (.iload_n 3, 1) := by decide +kernel
theorem dX7_first_65 : decode cX7_first 65 = .ok (.goto 4, 3) := by decide +kernel
theorem dX7_first_68 : decode cX7_first 68 = .ok (.iload_n 2, 1) := by decide +kernel
theorem dX7_first_69 : decode cX7_first 69 = .ok (.istore_n 2, 1) := by decide +kernel
theorem dX7_first_70 : decode cX7_first 70 = .ok (.iinc 3 1, 3) := by decide +kernel
theorem dX7_first_73 : decode cX7_first 73 = .ok (.goto (-69), 3) := by decide +kernel
theorem dX7_first_76 : decode cX7_first 76 = .ok (.iload_n 2, 1) := by decide +kernel
theorem dX7_first_77 : decode cX7_first 77 = .ok (.ireturn, 1) := by decide +kernel
theorem dX7_begins_0 : decode cX7_begins 0 = .ok (.aload_n 0, 1) := by decide +kernel
theorem dX7_begins_1 : decode cX7_begins 1 = .ok (.iload_n 1, 1) := by decide +kernel
theorem dX7_begins_2 : decode cX7_begins 2 = .ok (.invokevirtual 145, 3) := by decide +kernel
theorem dX7_begins_5 : decode cX7_begins 5 = .ok (.aload_n 0, 1) := by decide +kernel
theorem dX7_begins_6 : decode cX7_begins 6 = .ok (.getfield 62, 3) := by decide +kernel
theorem dX7_begins_9 : decode cX7_begins 9 = .ok (.iload_n 2, 1) := by decide +kernel
theorem dX7_begins_10 : decode cX7_begins 10 = .ok (.iaload, 1) := by decide +kernel
theorem dX7_begins_11 : decode cX7_begins 11 = .ok (.iadd, 1) := by decide +kernel
theorem dX7_begins_12 : decode cX7_begins 12 = .ok (.iconst 1, 1) := by decide +kernel
theorem dX7_begins_13 : decode cX7_begins 13 = .ok (.isub, 1) := by decide +kernel
theorem dX7_begins_14 : decode cX7_begins 14 = .ok (.aload_n 0, 1) := by decide +kernel
theorem dX7_begins_15 : decode cX7_begins 15 = .ok (.getfield 62, 3) := by decide +kernel
theorem dX7_begins_18 : decode cX7_begins 18 = .ok (.iload_n 2, 1) := by decide +kernel
theorem dX7_begins_19 : decode cX7_begins 19 = .ok (.iaload, 1) := by decide +kernel
theorem dX7_begins_20 : decode cX7_begins 20 = .ok (.idiv, 1) := by decide +kernel
theorem dX7_begins_21 : decode cX7_begins 21 = .ok (.istore_n 3, 1) := by decide +kernel
theorem dX7_begins_22 : decode cX7_begins 22 = .ok (.aload_n 0, 1) := by decide +kernel
theorem dX7_begins_23 : decode cX7_begins 23 = .ok (.getfield 28, 3) := by decide +kernel
theorem dX7_begins_26 : decode cX7_begins 26 = .ok (.iload_n 1, 1) := by decide +kernel
theorem dX7_begins_27 : decode cX7_begins 27 = .ok (.aload_n 0, 1) := by decide +kernel
theorem dX7_begins_28 : decode cX7_begins 28 = .ok (.getfield 148, 3) := by decide +kernel
theorem dX7_begins_31 : decode cX7_begins 31 = .ok (.iload_n 3, 1) := by decide +kernel
theorem dX7_begins_32 : decode cX7_begins 32 = .ok (.iconst 1, 1) := by decide +kernel
theorem dX7_begins_33 : decode cX7_begins 33 = .ok (.if_icmp .ge 7, 3) := by decide +kernel
theorem dX7_begins_36 : decode cX7_begins 36 = .ok (.iconst 1, 1) := by decide +kernel
theorem dX7_begins_37 : decode cX7_begins 37 = .ok (.goto 4, 3) := by decide +kernel
theorem dX7_begins_40 : decode cX7_begins 40 = .ok (.iload_n 3, 1) := by decide +kernel
theorem dX7_begins_41 : decode cX7_begins 41 = .ok (.iadd, 1) := by decide +kernel
theorem dX7_begins_42 : decode cX7_begins 42 = .ok (.iastore, 1) := by decide +kernel
theorem dX7_begins_43 : decode cX7_begins 43 = .ok (.return_, 1) := by decide +kernel
theorem dX7_give_0 : decode cX7_give 0 = .ok (.aload_n 0, 1) := by decide +kernel
theorem dX7_give_1 : decode cX7_give 1 = .ok (.iload_n 1, 1) := by decide +kernel
theorem dX7_give_2 : decode cX7_give 2 = .ok (.invokevirtual 117, 3) := by decide +kernel
theorem dX7_give_5 : decode cX7_give 5 = .ok (.ifCond .eq 15, 3) := by decide +kernel
theorem dX7_give_8 : decode cX7_give 8 = .ok (.aload_n 0, 1) := by decide +kernel
theorem dX7_give_9 : decode cX7_give 9 = .ok (.iload_n 2, 1) := by decide +kernel
theorem dX7_give_10 : decode cX7_give 10 = .ok (.invokevirtual 136, 3) := by decide +kernel
theorem dX7_give_13 : decode cX7_give 13 = .ok (.ifCond .eq 7, 3) := by decide +kernel
theorem dX7_give_16 : decode cX7_give 16 = .ok (.iconst 1, 1) := by decide +kernel
theorem dX7_give_17 : decode cX7_give 17 = .ok (.goto 4, 3) := by decide +kernel
theorem dX7_give_20 : decode cX7_give 20 = .ok (.iconst 0, 1) := by decide +kernel
theorem dX7_give_21 : decode cX7_give 21 = .ok (.istore_n 3, 1) := by decide +kernel
theorem dX7_give_22 : decode cX7_give 22 = .ok (.aload_n 0, 1) := by decide +kernel
theorem dX7_give_23 : decode cX7_give 23 = .ok (.iload_n 3, 1) := by decide +kernel
theorem dX7_give_24 : decode cX7_give 24 = .ok (.ifCond .ne 7, 3) := by decide +kernel
theorem dX7_give_27 : decode cX7_give 27 = .ok (.iconst 1, 1) := by decide +kernel
theorem dX7_give_28 : decode cX7_give 28 = .ok (.goto 17, 3) := by decide +kernel
theorem dX7_give_31 : decode cX7_give 31 = .ok (.aload_n 0, 1) := by decide +kernel
theorem dX7_give_32 : decode cX7_give 32 = .ok (.iload_n 1, 1) := by decide +kernel
theorem dX7_give_33 : decode cX7_give 33 = .ok (.iload_n 2, 1) := by decide +kernel
theorem dX7_give_34 : decode cX7_give 34 = .ok (.invokevirtual 151, 3) := by decide +kernel
theorem dX7_give_37 : decode cX7_give 37 = .ok (.ifCond .eq 7, 3) := by decide +kernel
theorem dX7_give_40 : decode cX7_give 40 = .ok (.iconst 0, 1) := by decide +kernel
theorem dX7_give_41 : decode cX7_give 41 = .ok (.goto 4, 3) := by decide +kernel
theorem dX7_give_44 : decode cX7_give 44 = .ok (.iconst 2, 1) := by decide +kernel
theorem dX7_give_45 : decode cX7_give 45 = .ok (.invokevirtual 103, 3) := by decide +kernel
theorem dX7_give_48 : decode cX7_give 48 = .ok (.ifCond .ne 5, 3) := by decide +kernel
theorem dX7_give_51 : decode cX7_give 51 = .ok (.iconst 0, 1) := by decide +kernel
theorem dX7_give_52 : decode cX7_give 52 = .ok (.ireturn, 1) := by decide +kernel
theorem dX7_give_53 : decode cX7_give 53 = .ok (.aload_n 0, 1) := by decide +kernel
theorem dX7_give_54 : decode cX7_give 54 = .ok (.iload_n 2, 1) := by decide +kernel
theorem dX7_give_55 : decode cX7_give 55 = .ok (.invokevirtual 154, 3) := by decide +kernel
theorem dX7_give_58 : decode cX7_give 58 = .ok (.istore 4, 2) := by decide +kernel
theorem dX7_give_60 : decode cX7_give 60 = .ok (.aload_n 0, 1) := by decide +kernel
theorem dX7_give_61 : decode cX7_give 61 = .ok (.getfield 22, 3) := by decide +kernel
theorem dX7_give_64 : decode cX7_give 64 = .ok (.iload_n 1, 1) := by decide +kernel
theorem dX7_give_65 : decode cX7_give 65 = .ok (.iconst 1, 1) := by decide +kernel
theorem dX7_give_66 : decode cX7_give 66 = .ok (.iastore, 1) := by decide +kernel
theorem dX7_give_67 : decode cX7_give 67 = .ok (.aload_n 0, 1) := by decide +kernel
theorem dX7_give_68 : decode cX7_give 68 = .ok (.getfield 25, 3) := by decide +kernel
theorem dX7_give_71 : decode cX7_give 71 = .ok (.iload_n 1, 1) := by decide +kernel
theorem dX7_give_72 : decode cX7_give 72 = .ok (.iload_n 2, 1) := by decide +kernel
theorem dX7_give_73 : decode cX7_give 73 = .ok (.iastore, 1) := by decide +kernel
theorem dX7_give_74 : decode cX7_give 74 = .ok (.aload_n 0, 1) := by decide +kernel
theorem dX7_give_75 : decode cX7_give 75 = .ok (.getfield 31, 3) := by decide +kernel
theorem dX7_give_78 : decode cX7_give 78 = .ok (.iload_n 1, 1) := by decide +kernel
theorem dX7_give_79 : decode cX7_give 79 = .ok (.aload_n 0, 1) := by decide +kernel
theorem dX7_give_80 : decode cX7_give 80 = .ok (.getfield 157, 3) := by decide +kernel
theorem dX7_give_83 : decode cX7_give 83 = .ok (.iastore, 1) := by decide +kernel
theorem dX7_give_84 : decode cX7_give 84 = .ok (.aload_n 0, 1) := by decide +kernel
theorem dX7_give_85 : decode cX7_give 85 = .ok (.dup, 1) := by decide +kernel
theorem dX7_give_86 : decode cX7_give 86 = .ok (.getfield 157, 3) := by decide +kernel
theorem dX7_give_89 : decode cX7_give 89 = .ok (.iconst 1, 1) := by decide +kernel
theorem dX7_give_90 : decode cX7_give 90 = .ok (.iadd, 1) := by decide +kernel
theorem dX7_give_91 : decode cX7_give 91 = .ok (.putfield 157, 3) := by decide +kernel
theorem dX7_give_94 : decode cX7_give 94 = .ok (.iload 4, 2) := by decide +kernel
theorem dX7_give_96 : decode cX7_give 96 = .ok (.ifCond .ne 9, 3) := by decide +kernel
theorem dX7_give_99 : decode cX7_give 99 = .ok (.aload_n 0, 1) := by decide +kernel
theorem dX7_give_100 : decode cX7_give 100 = .ok (.iload_n 1, 1) := by decide +kernel
theorem dX7_give_101 : decode cX7_give 101 = .ok (.iload_n 2, 1) := by decide +kernel
theorem dX7_give_102 : decode cX7_give 102 = .ok (.invokevirtual 160, 3) := by decide +kernel
theorem dX7_give_105 : decode cX7_give 105 = .ok (.iload 4, 2) := by decide +kernel
theorem dX7_give_107 : decode cX7_give 107 = .ok (.iconst 1, 1) := by decide +kernel
theorem dX7_give_108 : decode cX7_give 108 = .ok (.iadd, 1) := by decide +kernel
theorem dX7_give_109 : decode cX7_give 109 = .ok (.ireturn, 1) := by decide +kernel
theorem dX7_die_0 : decode cX7_die 0 = .ok (.aload_n 0, 1) := by decide +kernel
theorem dX7_die_1 : decode cX7_die 1 = .ok (.iload_n 1, 1) := by decide +kernel
theorem dX7_die_2 : decode cX7_die 2 = .ok (.invokevirtual 136, 3) := by decide +kernel
theorem dX7_die_5 : decode cX7_die 5 = .ok (.istore_n 2, 1) := by decide +kernel
theorem dX7_die_6 : decode cX7_die 6 = .ok (.aload_n 0, 1) := by decide +kernel
theorem dX7_die_7 : decode cX7_die 7 = .ok (.iload_n 2, 1) := by decide +kernel
theorem dX7_die_8 : decode cX7_die 8 = .ok (.ifCond .ne 7, 3) := by decide +kernel
theorem dX7_die_11 : decode cX7_die 11 = .ok (.iconst 1, 1) := by decide +kernel
theorem dX7_die_12 : decode cX7_die 12 = .ok (.goto 17, 3) := by decide +kernel
theorem dX7_die_15 : decode cX7_die 15 = .ok (.aload_n 0, 1) := by decide +kernel
theorem dX7_die_16 : decode cX7_die 16 = .ok (.getfield 65, 3) := by decide +kernel
theorem dX7_die_19 : decode cX7_die 19 = .ok (.iload_n 1, 1) := by decide +kernel
theorem dX7_die_20 : decode cX7_die 20 = .ok (.baload, 1) := by decide +kernel
theorem dX7_die_21 : decode cX7_die 21 = .ok (.ifCond .eq 7, 3) := by decide +kernel
theorem dX7_die_24 : decode cX7_die 24 = .ok (.iconst 2, 1) := by decide +kernel
theorem dX7_die_25 : decode cX7_die 25 = .ok (.goto 4, 3) := by decide +kernel
theorem dX7_die_28 : decode cX7_die 28 = .ok (.iconst 0, 1) := by decide +kernel
theorem dX7_die_29 : decode cX7_die 29 = .ok (.invokevirtual 103, 3) := by decide +kernel
theorem dX7_die_32 : decode cX7_die 32 = .ok (.ifCond .ne 5, 3) := by decide +kernel
theorem dX7_die_35 : decode cX7_die 35 = .ok (.iconst 0, 1) := by decide +kernel
theorem dX7_die_36 : decode cX7_die 36 = .ok (.ireturn, 1) := by decide +kernel
theorem dX7_die_37 : decode cX7_die 37 = .ok (.iconst 0, 1) := by decide +kernel
theorem dX7_die_38 : decode cX7_die 38 = .ok (.istore_n 3, 1) := by decide +kernel
theorem dX7_die_39 : decode cX7_die 39 = .ok (.aload_n 0, 1) := by decide +kernel
theorem dX7_die_40 : decode cX7_die 40 = .ok (.getfield 65, 3) := by decide +kernel
theorem dX7_die_43 : decode cX7_die 43 = .ok (.iload_n 1, 1) := by decide +kernel
theorem dX7_die_44 : decode cX7_die 44 = .ok (.iconst 1, 1) := by decide +kernel
theorem dX7_die_45 : decode cX7_die 45 = .ok (.bastore, 1) := by decide +kernel
theorem dX7_die_46 : decode cX7_die 46 = .ok (.iconst 0, 1) := by decide +kernel
theorem dX7_die_47 : decode cX7_die 47 = .ok (.istore 4, 2) := by decide +kernel
theorem dX7_die_49 : decode cX7_die 49 = .ok (.iload 4, 2) := by decide +kernel
theorem dX7_die_51 : decode cX7_die 51 = .ok (.aload_n 0, 1) := by decide +kernel
theorem dX7_die_52 : decode cX7_die 52 = .ok (.getfield 78, 3) := by decide +kernel
theorem dX7_die_55 : decode cX7_die 55 = .ok (.if_icmp .ge 58, 3) := by decide +kernel
theorem dX7_die_58 : decode cX7_die 58 = .ok (.aload_n 0, 1) := by decide +kernel
theorem dX7_die_59 : decode cX7_die 59 = .ok (.getfield 22, 3) := by decide +kernel
theorem dX7_die_62 : decode cX7_die 62 = .ok (.iload 4, 2) := by decide +kernel
theorem dX7_die_64 : decode cX7_die 64 = .ok (.iaload, 1) := by decide +kernel
theorem dX7_die_65 : decode cX7_die 65 = .ok (.iconst 1, 1) := by decide +kernel
theorem dX7_die_66 : decode cX7_die 66 = .ok (.if_icmp .ne 41, 3) := by decide +kernel
theorem dX7_die_69 : decode cX7_die 69 = .ok (.aload_n 0, 1) := by decide +kernel
theorem dX7_die_70 : decode cX7_die 70 = .ok (.getfield 25, 3) := by decide +kernel
theorem dX7_die_73 : decode cX7_die 73 = .ok (.iload 4, 2) := by decide +kernel
theorem dX7_die_75 : decode cX7_die 75 = .ok (.iaload, 1) := by decide +kernel
theorem dX7_die_76 : decode cX7_die 76 = .ok (.iload_n 1, 1) := by decide +kernel
theorem dX7_die_77 : decode cX7_die 77 = .ok (.if_icmp .ne 30, 3) := by decide +kernel
theorem dX7_die_80 : decode cX7_die 80 = .ok (.aload_n 0, 1) := by decide +kernel
theorem dX7_die_81 : decode cX7_die 81 = .ok (.getfield 22, 3) := by decide +kernel
theorem dX7_die_84 : decode cX7_die 84 = .ok (.iload 4, 2) := by decide +kernel
theorem dX7_die_86 : decode cX7_die 86 = .ok (.iconst 0, 1) := by decide +kernel
theorem dX7_die_87 : decode cX7_die 87 = .ok (.iastore, 1) := by decide +kernel
theorem dX7_die_88 : decode cX7_die 88 = .ok (.aload_n 0, 1) := by decide +kernel
theorem dX7_die_89 : decode cX7_die 89 = .ok (.getfield 25, 3) := by decide +kernel
theorem dX7_die_92 : decode cX7_die 92 = .ok (.iload 4, 2) := by decide +kernel
theorem dX7_die_94 : decode cX7_die 94 = .ok (.iconst (-1), 1) := by decide +kernel
theorem dX7_die_95 : decode cX7_die 95 = .ok (.iastore, 1) := by decide +kernel
theorem dX7_die_96 : decode cX7_die 96 = .ok (.aload_n 0, 1) := by decide +kernel
theorem dX7_die_97 : decode cX7_die 97 = .ok (.getfield 28, 3) := by decide +kernel
theorem dX7_die_100 : decode cX7_die 100 = .ok (.iload 4, 2) := by decide +kernel
theorem dX7_die_102 : decode cX7_die 102 = .ok (.iconst (-1), 1) := by decide +kernel
theorem dX7_die_103 : decode cX7_die 103 = .ok (.iastore, 1) := by decide +kernel
theorem dX7_die_104 : decode cX7_die 104 = .ok (.iinc 3 1, 3) := by decide +kernel
theorem dX7_die_107 : decode cX7_die 107 = .ok (.iinc 4 1, 3) := by decide +kernel
theorem dX7_die_110 : decode cX7_die 110 = .ok (.goto (-61), 3) := by decide +kernel
theorem dX7_die_113 : decode cX7_die 113 = .ok (.iload_n 3, 1) := by decide +kernel
theorem dX7_die_114 : decode cX7_die 114 = .ok (.ireturn, 1) := by decide +kernel
theorem dX7_pass_0 : decode cX7_pass 0 = .ok (.aload_n 0, 1) := by decide +kernel
theorem dX7_pass_1 : decode cX7_pass 1 = .ok (.iload_n 1, 1) := by decide +kernel
theorem dX7_pass_2 : decode cX7_pass 2 = .ok (.iconst 1, 1) := by decide +kernel
theorem dX7_pass_3 : decode cX7_pass 3 = .ok (.bipush 50, 2) := by decide +kernel
theorem dX7_pass_5 : decode cX7_pass 5 = .ok (.invokestatic 81, 3) := by decide +kernel
theorem dX7_pass_8 : decode cX7_pass 8 = .ok (.ifCond .eq 7, 3) := by decide +kernel
theorem dX7_pass_11 : decode cX7_pass 11 = .ok (.iconst 0, 1) := by decide +kernel
theorem dX7_pass_12 : decode cX7_pass 12 = .ok (.goto 4, 3) := by decide +kernel
theorem dX7_pass_15 : decode cX7_pass 15 = .ok (.iconst 1, 1) := by decide +kernel
theorem dX7_pass_16 : decode cX7_pass 16 = .ok (.invokevirtual 103, 3) := by decide +kernel
theorem dX7_pass_19 : decode cX7_pass 19 = .ok (.ifCond .ne 5, 3) := by decide +kernel
theorem dX7_pass_22 : decode cX7_pass 22 = .ok (.iconst 0, 1) := by decide +kernel
theorem dX7_pass_23 : decode cX7_pass 23 = .ok (.ireturn, 1) := by decide +kernel
theorem dX7_pass_24 : decode cX7_pass 24 = .ok (.iconst 0, 1) := by decide +kernel
theorem dX7_pass_25 : decode cX7_pass 25 = .ok (.istore_n 2, 1) := by decide +kernel
theorem dX7_pass_26 : decode cX7_pass 26 = .ok (.iconst 0, 1) := by decide +kernel
theorem dX7_pass_27 : decode cX7_pass 27 = .ok (.istore_n 3, 1) := by decide +kernel
theorem dX7_pass_28 : decode cX7_pass 28 = .ok (.iload_n 3, 1) := by decide +kernel
theorem dX7_pass_29 : decode cX7_pass 29 = .ok (.iload_n 1, 1) := by decide +kernel
theorem dX7_pass_30 : decode cX7_pass 30 = .ok (.if_icmp .ge 98, 3) := by decide +kernel
theorem dX7_pass_33 : decode cX7_pass 33 = .ok (.aload_n 0, 1) := by decide +kernel
theorem dX7_pass_34 : decode cX7_pass 34 = .ok (.dup, 1) := by decide +kernel
theorem dX7_pass_35 : decode cX7_pass 35 = .ok (.getfield 148, 3) := by decide +kernel
theorem dX7_pass_38 : decode cX7_pass 38 = .ok (.iconst 1, 1) := by decide +kernel
theorem dX7_pass_39 : decode cX7_pass 39 = .ok (.iadd, 1) := by decide +kernel
theorem dX7_pass_40 : decode cX7_pass 40 = .ok (.putfield 148, 3) := by decide +kernel
theorem dX7_pass_43 : decode cX7_pass 43 = .ok (.iconst 0, 1) := by decide +kernel
theorem dX7_pass_44 : decode cX7_pass 44 = .ok (.istore 4, 2) := by decide +kernel
theorem dX7_pass_46 : decode cX7_pass 46 = .ok (.iload 4, 2) := by decide +kernel
theorem dX7_pass_48 : decode cX7_pass 48 = .ok (.aload_n 0, 1) := by decide +kernel
theorem dX7_pass_49 : decode cX7_pass 49 = .ok (.getfield 85, 3) := by decide +kernel
theorem dX7_pass_52 : decode cX7_pass 52 = .ok (.if_icmp .ge 70, 3) := by decide +kernel
theorem dX7_pass_55 : decode cX7_pass 55 = .ok (.aload_n 0, 1) := by decide +kernel
theorem dX7_pass_56 : decode cX7_pass 56 = .ok (.iload 4, 2) := by decide +kernel
theorem dX7_pass_58 : decode cX7_pass 58 = .ok (.invokevirtual 164, 3) := by decide +kernel
theorem dX7_pass_61 : decode cX7_pass 61 = .ok (.istore 5, 2) := by decide +kernel
theorem dX7_pass_63 : decode cX7_pass 63 = .ok (.iload 5, 2) := by decide +kernel
theorem dX7_pass_65 : decode cX7_pass 65 = .ok (.iconst (-1), 1) := by decide +kernel
theorem dX7_pass_66 : decode cX7_pass 66 = .ok (.if_icmp .eq 50, 3) := by decide +kernel
theorem dX7_pass_69 : decode cX7_pass 69 = .ok (.aload_n 0, 1) := by decide +kernel
theorem dX7_pass_70 : decode cX7_pass 70 = .ok (.getfield 28, 3) := by decide +kernel
theorem dX7_pass_73 : decode cX7_pass 73 = .ok (.iload 5, 2) := by decide +kernel
theorem dX7_pass_75 : decode cX7_pass 75 = .ok (.iaload, 1) := by decide +kernel
theorem dX7_pass_76 : decode cX7_pass 76 = .ok (.aload_n 0, 1) := by decide +kernel
theorem dX7_pass_77 : decode cX7_pass 77 = .ok (.getfield 148, 3) := by decide +kernel
theorem dX7_pass_80 : decode cX7_pass 80 = .ok (.if_icmp .ne 36, 3) := by decide +kernel
theorem dX7_pass_83 : decode cX7_pass 83 = .ok (.aload_n 0, 1) := by decide +kernel
theorem dX7_pass_84 : decode cX7_pass 84 = .ok (.getfield 22, 3) := by decide +kernel
theorem dX7_pass_87 : decode cX7_pass 87 = .ok (.iload 5, 2) := by decide +kernel
theorem dX7_pass_89 : decode cX7_pass 89 = .ok (.iconst 2, 1) := by decide +kernel
theorem dX7_pass_90 : decode cX7_pass 90 = .ok (.iastore, 1) := by decide +kernel
theorem dX7_pass_91 : decode cX7_pass 91 = .ok (.iinc 2 1, 3) := by decide +kernel
theorem dX7_pass_94 : decode cX7_pass 94 = .ok (.aload_n 0, 1) := by decide +kernel
theorem dX7_pass_95 : decode cX7_pass 95 = .ok (.iload 4, 2) := by decide +kernel
theorem dX7_pass_97 : decode cX7_pass 97 = .ok (.invokevirtual 164, 3) := by decide +kernel
theorem dX7_pass_100 : decode cX7_pass 100 = .ok (.istore 6, 2) := by decide +kernel
theorem dX7_pass_102 : decode cX7_pass 102 = .ok (.iload 6, 2) := by decide +kernel
theorem dX7_pass_104 : decode cX7_pass 104 = .ok (.iconst (-1), 1) := by decide +kernel
theorem dX7_pass_105 : decode cX7_pass 105 = .ok (.if_icmp .eq 11, 3) := by decide +kernel
theorem dX7_pass_108 : decode cX7_pass 108 = .ok (.aload_n 0, 1) := by decide +kernel
theorem dX7_pass_109 : decode cX7_pass 109 = .ok (.iload 6, 2) := by decide +kernel
theorem dX7_pass_111 : decode cX7_pass 111 = .ok (.iload 4, 2) := by decide +kernel
theorem dX7_pass_113 : decode cX7_pass 113 = .ok (.invokevirtual 160, 3) := by decide +kernel
theorem dX7_pass_116 : decode cX7_pass 116 = .ok (.iinc 4 1, 3) := by decide +kernel
theorem dX7_pass_119 : decode cX7_pass 119 = .ok (.goto (-73), 3) := by decide +kernel
theorem dX7_pass_122 : decode cX7_pass 122 = .ok (.iinc 3 1, 3) := by decide +kernel
theorem dX7_pass_125 : decode cX7_pass 125 = .ok (.goto (-97), 3) := by decide +kernel
theorem dX7_pass_128 : decode cX7_pass 128 = .ok (.iload_n 2, 1) := by decide +kernel
theorem dX7_pass_129 : decode cX7_pass 129 = .ok (.ireturn, 1) := by decide +kernel
theorem dX7_isPrinted_0 : decode cX7_isPrinted 0 = .ok (.iconst 0, 1) := by decide +kernel
theorem dX7_isPrinted_1 : decode cX7_isPrinted 1 = .ok (.istore_n 2, 1) := by decide +kernel
theorem dX7_isPrinted_2 : decode cX7_isPrinted 2 = .ok (.iconst 0, 1) := by decide +kernel
theorem dX7_isPrinted_3 : decode cX7_isPrinted 3 = .ok (.istore_n 3, 1) := by decide +kernel
theorem dX7_isPrinted_4 : decode cX7_isPrinted 4 = .ok (.iload_n 3, 1) := by decide +kernel
theorem dX7_isPrinted_5 : decode cX7_isPrinted 5 = .ok (.aload_n 0, 1) := by decide +kernel
theorem dX7_isPrinted_6 : decode cX7_isPrinted 6 = .ok (.getfield 78, 3) := by decide +kernel
theorem dX7_isPrinted_9 : decode cX7_isPrinted 9 = .ok (.if_icmp .ge 38, 3) := by decide +kernel
theorem dX7_isPrinted_12 : decode cX7_isPrinted 12 = .ok (.iload_n 2, 1) := by decide +kernel
theorem dX7_isPrinted_13 : decode cX7_isPrinted 13 = .ok (.ifCond .ne 22, 3) := by decide +kernel
theorem dX7_isPrinted_16 : decode cX7_isPrinted 16 = .ok (.aload_n 0, 1) := by decide +kernel
theorem dX7_isPrinted_17 : decode cX7_isPrinted 17 = .ok (.getfield 22, 3) := by decide +kernel
theorem dX7_isPrinted_20 : decode cX7_isPrinted 20 = .ok (.iload_n 3, 1) := by decide +kernel
theorem dX7_isPrinted_21 : decode cX7_isPrinted 21 = .ok (.iaload, 1) := by decide +kernel
theorem dX7_isPrinted_22 : decode cX7_isPrinted 22 = .ok (.iconst 3, 1) := by decide +kernel
theorem dX7_isPrinted_23 : decode cX7_isPrinted 23 = .ok (.if_icmp .ne 16, 3) := by decide +kernel
theorem dX7_isPrinted_26 : decode cX7_isPrinted 26 = .ok (.aload_n 0, 1) := by decide +kernel
theorem dX7_isPrinted_27 : decode cX7_isPrinted 27 = .ok (.iload_n 3, 1) := by decide +kernel
theorem dX7_isPrinted_28 : decode cX7_isPrinted 28 = .ok (.iload_n 1, 1) := by decide +kernel
theorem dX7_isPrinted_29 : decode cX7_isPrinted 29 = .ok (.invokevirtual 126, 3) := by decide +kernel
theorem dX7_isPrinted_32 : decode cX7_isPrinted 32 = .ok (.ifCond .ne 7, 3) := by decide +kernel
theorem dX7_isPrinted_35 : decode cX7_isPrinted 35 = .ok (.iconst 1, 1) := by decide +kernel
theorem dX7_isPrinted_36 : decode cX7_isPrinted 36 = .ok (.goto 4, 3) := by decide +kernel
theorem dX7_isPrinted_39 : decode cX7_isPrinted 39 = .ok (.iconst 0, 1) := by decide +kernel
theorem dX7_isPrinted_40 : decode cX7_isPrinted 40 = .ok (.istore_n 2, 1) := by decide +kernel
theorem dX7_isPrinted_41 : decode cX7_isPrinted 41 = .ok (.iinc 3 1, 3) := by decide +kernel
theorem dX7_isPrinted_44 : decode cX7_isPrinted 44 = .ok (.goto (-40), 3) := by decide +kernel
theorem dX7_isPrinted_47 : decode cX7_isPrinted 47 = .ok (.iload_n 2, 1) := by decide +kernel
theorem dX7_isPrinted_48 : decode cX7_isPrinted 48 = .ok (.ireturn, 1) := by decide +kernel
theorem dX7_isPromise_0 : decode cX7_isPromise 0 = .ok (.aload_n 0, 1) := by decide +kernel
theorem dX7_isPromise_1 : decode cX7_isPromise 1 = .ok (.iload_n 1, 1) := by decide +kernel
theorem dX7_isPromise_2 : decode cX7_isPromise 2 = .ok (.invokevirtual 129, 3) := by decide +kernel
theorem dX7_isPromise_5 : decode cX7_isPromise 5 = .ok (.istore_n 2, 1) := by decide +kernel
theorem dX7_isPromise_6 : decode cX7_isPromise 6 = .ok (.iload_n 2, 1) := by decide +kernel
theorem dX7_isPromise_7 : decode cX7_isPromise 7 = .ok (.iconst (-1), 1) := by decide +kernel
theorem dX7_isPromise_8 : decode cX7_isPromise 8 = .ok (.if_icmp .eq 11, 3) := by decide +kernel
theorem dX7_isPromise_11 : decode cX7_isPromise 11 = .ok (.iload_n 2, 1) := by decide +kernel
theorem dX7_isPromise_12 : decode cX7_isPromise 12 = .ok (.aload_n 0, 1) := by decide +kernel
theorem dX7_isPromise_13 : decode cX7_isPromise 13 = .ok (.getfield 107, 3) := by decide +kernel
theorem dX7_isPromise_16 : decode cX7_isPromise 16 = .ok (.if_icmp .lt 7, 3) := by decide +kernel
theorem dX7_isPromise_19 : decode cX7_isPromise 19 = .ok (.iconst 1, 1) := by decide +kernel
theorem dX7_isPromise_20 : decode cX7_isPromise 20 = .ok (.goto 4, 3) := by decide +kernel
theorem dX7_isPromise_23 : decode cX7_isPromise 23 = .ok (.iconst 0, 1) := by decide +kernel
theorem dX7_isPromise_24 : decode cX7_isPromise 24 = .ok (.ireturn, 1) := by decide +kernel
theorem dX7_prints_0 : decode cX7_prints 0 = .ok (.iconst 0, 1) := by decide +kernel
theorem dX7_prints_1 : decode cX7_prints 1 = .ok (.istore_n 3, 1) := by decide +kernel
theorem dX7_prints_2 : decode cX7_prints 2 = .ok (.iconst 0, 1) := by decide +kernel
theorem dX7_prints_3 : decode cX7_prints 3 = .ok (.istore 4, 2) := by decide +kernel
theorem dX7_prints_5 : decode cX7_prints 5 = .ok (.iconst 0, 1) := by decide +kernel
theorem dX7_prints_6 : decode cX7_prints 6 = .ok (.istore 5, 2) := by decide +kernel
theorem dX7_prints_8 : decode cX7_prints 8 = .ok (.iload 5, 2) := by decide +kernel
theorem dX7_prints_10 : decode cX7_prints 10 = .ok (.aload_n 0, 1) := by decide +kernel
theorem dX7_prints_11 : decode cX7_prints 11 = .ok (.getfield 78, 3) := by decide +kernel
theorem dX7_prints_14 : decode cX7_prints 14 = .ok (.if_icmp .ge 156, 3) := by decide +kernel
theorem dX7_prints_17 : decode cX7_prints 17 = .ok (.aload_n 0, 1) := by decide +kernel
theorem dX7_prints_18 : decode cX7_prints 18 = .ok (.iload 5, 2) := by decide +kernel
theorem dX7_prints_20 : decode cX7_prints 20 = .ok (.invokevirtual 129, 3) := by decide +kernel
theorem dX7_prints_23 : decode cX7_prints 23 = .ok (.iload_n 1, 1) := by decide +kernel
theorem dX7_prints_24 : decode cX7_prints 24 = .ok (.iload_n 2, 1) := by decide +kernel
theorem dX7_prints_25 : decode cX7_prints 25 = .ok (.invokestatic 81, 3) := by decide +kernel
theorem dX7_prints_28 : decode cX7_prints 28 = .ok (.ifCond .eq 38, 3) := by decide +kernel
theorem dX7_prints_31 : decode cX7_prints 31 = .ok (.aload_n 0, 1) := by decide +kernel
theorem dX7_prints_32 : decode cX7_prints 32 = .ok (.getfield 22, 3) := by decide +kernel
theorem dX7_prints_35 : decode cX7_prints 35 = .ok (.iload 5, 2) := by decide +kernel
theorem dX7_prints_37 : decode cX7_prints 37 = .ok (.iaload, 1) := by decide +kernel
theorem dX7_prints_38 : decode cX7_prints 38 = .ok (.iconst 2, 1) := by decide +kernel
theorem dX7_prints_39 : decode cX7_prints 39 = .ok (.if_icmp .eq 23, 3) := by decide +kernel
theorem dX7_prints_42 : decode cX7_prints 42 = .ok (.aload_n 0, 1) := by decide +kernel
theorem dX7_prints_43 : decode cX7_prints 43 = .ok (.getfield 19, 3) := by decide +kernel
theorem dX7_prints_46 : decode cX7_prints 46 = .ok (.iload 5, 2) := by decide +kernel
theorem dX7_prints_48 : decode cX7_prints 48 = .ok (.iaload, 1) := by decide +kernel
theorem dX7_prints_49 : decode cX7_prints 49 = .ok (.ifCond .ne 17, 3) := by decide +kernel
theorem dX7_prints_52 : decode cX7_prints 52 = .ok (.aload_n 0, 1) := by decide +kernel
theorem dX7_prints_53 : decode cX7_prints 53 = .ok (.getfield 22, 3) := by decide +kernel
theorem dX7_prints_56 : decode cX7_prints 56 = .ok (.iload 5, 2) := by decide +kernel
theorem dX7_prints_58 : decode cX7_prints 58 = .ok (.iaload, 1) := by decide +kernel
theorem dX7_prints_59 : decode cX7_prints 59 = .ok (.ifCond .ne 7, 3) := by decide +kernel
theorem dX7_prints_62 : decode cX7_prints 62 = .ok (.iconst 1, 1) := by decide +kernel
theorem dX7_prints_63 : decode cX7_prints 63 = .ok (.goto 4, 3) := by decide +kernel
theorem dX7_prints_66 : decode cX7_prints 66 = .ok (.iconst 0, 1) := by decide +kernel
theorem dX7_prints_67 : decode cX7_prints 67 = .ok (.istore 6, 2) := by decide +kernel
theorem dX7_prints_69 : decode cX7_prints 69 = .ok (.iload 4, 2) := by decide +kernel
theorem dX7_prints_71 : decode cX7_prints 71 = .ok (.iload 6, 2) := by decide +kernel
theorem dX7_prints_73 : decode cX7_prints 73 = .ok (.ifCond .eq 10, 3) := by decide +kernel
theorem dX7_prints_76 : decode cX7_prints 76 = .ok (.iconst 1, 1) := by decide +kernel
theorem dX7_prints_77 : decode cX7_prints 77 = .ok (.iload 5, 2) := by decide +kernel
theorem dX7_prints_79 : decode cX7_prints 79 = .ok (.ishl, 1) := by decide +kernel
theorem dX7_prints_80 : decode cX7_prints 80 = .ok (.goto 4, 3) := by decide +kernel
theorem dX7_prints_83 : decode cX7_prints 83 = .ok (.iconst 0, 1) := by decide +kernel
theorem dX7_prints_84 : decode cX7_prints 84 = .ok (.ior, 1) := by decide +kernel
theorem dX7_prints_85 : decode cX7_prints 85 = .ok (.istore 4, 2) := by decide +kernel
theorem dX7_prints_87 : decode cX7_prints 87 = .ok (.iload_n 3, 1) := by decide +kernel
theorem dX7_prints_88 : decode cX7_prints 88 = .ok (.iload 6, 2) := by decide +kernel
theorem dX7_prints_90 : decode cX7_prints 90 = .ok (.ifCond .eq 7, 3) := by decide +kernel
theorem dX7_prints_93 : decode cX7_prints 93 = .ok (.iconst 1, 1) := by decide +kernel
theorem dX7_prints_94 : decode cX7_prints 94 = .ok (.goto 4, 3) := by decide +kernel
theorem dX7_prints_97 : decode cX7_prints 97 = .ok (.iconst 0, 1) := by decide +kernel
theorem dX7_prints_98 : decode cX7_prints 98 = .ok (.iadd, 1) := by decide +kernel
theorem dX7_prints_99 : decode cX7_prints 99 = .ok (.istore_n 3, 1) := by decide +kernel
theorem dX7_prints_100 : decode cX7_prints 100 = .ok (.aload_n 0, 1) := by decide +kernel
theorem dX7_prints_101 : decode cX7_prints 101 = .ok (.getfield 22, 3) := by decide +kernel
theorem dX7_prints_104 : decode cX7_prints 104 = .ok (.iload 5, 2) := by decide +kernel
theorem dX7_prints_106 : decode cX7_prints 106 = .ok (.iload 6, 2) := by decide +kernel
theorem dX7_prints_108 : decode cX7_prints 108 = .ok (.ifCond .eq 7, 3) := by decide +kernel
theorem dX7_prints_111 : decode cX7_prints 111 = .ok (.iconst 3, 1) := by decide +kernel
theorem dX7_prints_112 : decode cX7_prints 112 = .ok (.goto 10, 3) := by decide +kernel
theorem dX7_prints_115 : decode cX7_prints 115 = .ok (.aload_n 0, 1) := by decide +kernel
theorem dX7_prints_116 : decode cX7_prints 116 = .ok (.getfield 22, 3) := by decide +kernel
theorem dX7_prints_119 : decode cX7_prints 119 = .ok (.iload 5, 2) := by decide +kernel
theorem dX7_prints_121 : decode cX7_prints 121 = .ok (.iaload, 1) := by decide +kernel
theorem dX7_prints_122 : decode cX7_prints 122 = .ok (.iastore, 1) := by decide +kernel
theorem dX7_prints_123 : decode cX7_prints 123 = .ok (.iconst 0, 1) := by decide +kernel
theorem dX7_prints_124 : decode cX7_prints 124 = .ok (.istore 7, 2) := by decide +kernel
theorem dX7_prints_126 : decode cX7_prints 126 = .ok (.iload 7, 2) := by decide +kernel
theorem dX7_prints_128 : decode cX7_prints 128 = .ok (.bipush 8, 2) := by decide +kernel
theorem dX7_prints_130 : decode cX7_prints 130 = .ok (.if_icmp .ge 34, 3) := by decide +kernel
theorem dX7_prints_133 : decode cX7_prints 133 = .ok (.iload 6, 2) := by decide +kernel
theorem dX7_prints_135 : decode cX7_prints 135 = .ok (.ifCond .eq 29, 3) := by decide +kernel
theorem dX7_prints_138 : decode cX7_prints 138 = .ok (.aload_n 0, 1) := by decide +kernel
theorem dX7_prints_139 : decode cX7_prints 139 = .ok (.getfield 47, 3) := by decide +kernel
theorem dX7_prints_142 : decode cX7_prints 142 = .ok (.bipush 8, 2) := by decide +kernel
theorem dX7_prints_144 : decode cX7_prints 144 = .ok (.iload 5, 2) := by decide +kernel
theorem dX7_prints_146 : decode cX7_prints 146 = .ok (.imul, 1) := by decide +kernel
theorem dX7_prints_147 : decode cX7_prints 147 = .ok (.iload 7, 2) := by decide +kernel
theorem dX7_prints_149 : decode cX7_prints 149 = .ok (.iadd, 1) := by decide +kernel
theorem dX7_prints_150 : decode cX7_prints 150 = .ok (.aload_n 0, 1) := by decide +kernel
theorem dX7_prints_151 : decode cX7_prints 151 = .ok (.getfield 53, 3) := by decide +kernel
theorem dX7_prints_154 : decode cX7_prints 154 = .ok (.iload 7, 2) := by decide +kernel
theorem dX7_prints_156 : decode cX7_prints 156 = .ok (.iaload, 1) := by decide +kernel
theorem dX7_prints_157 : decode cX7_prints 157 = .ok (.iastore, 1) := by decide +kernel
theorem dX7_prints_158 : decode cX7_prints 158 = .ok (.iinc 7 1, 3) := by decide +kernel
theorem dX7_prints_161 : decode cX7_prints 161 = .ok (.goto (-35), 3) := by decide +kernel
theorem dX7_prints_164 : decode cX7_prints 164 = .ok (.iinc 5 1, 3) := by decide +kernel
theorem dX7_prints_167 : decode cX7_prints 167 = .ok (.goto (-159), 3) := by decide +kernel
theorem dX7_prints_170 : decode cX7_prints 170 = .ok (.iconst 0, 1) := by decide +kernel
theorem dX7_prints_171 : decode cX7_prints 171 = .ok (.istore 5, 2) := by decide +kernel
theorem dX7_prints_173 : decode cX7_prints 173 = .ok (.iload 5, 2) := by decide +kernel
theorem dX7_prints_175 : decode cX7_prints 175 = .ok (.aload_n 0, 1) := by decide +kernel
theorem dX7_prints_176 : decode cX7_prints 176 = .ok (.getfield 78, 3) := by decide +kernel
theorem dX7_prints_179 : decode cX7_prints 179 = .ok (.if_icmp .ge 119, 3) := by decide +kernel
theorem dX7_prints_182 : decode cX7_prints 182 = .ok (.iconst 0, 1) := by decide +kernel
theorem dX7_prints_183 : decode cX7_prints 183 = .ok (.istore 6, 2) := by decide +kernel
theorem dX7_prints_185 : decode cX7_prints 185 = .ok (.iload 6, 2) := by decide +kernel
theorem dX7_prints_187 : decode cX7_prints 187 = .ok (.aload_n 0, 1) := by decide +kernel
theorem dX7_prints_188 : decode cX7_prints 188 = .ok (.getfield 38, 3) := by decide +kernel
theorem dX7_prints_191 : decode cX7_prints 191 = .ok (.iload 5, 2) := by decide +kernel
theorem dX7_prints_193 : decode cX7_prints 193 = .ok (.iaload, 1) := by decide +kernel
theorem dX7_prints_194 : decode cX7_prints 194 = .ok (.if_icmp .ge 98, 3) := by decide +kernel
theorem dX7_prints_197 : decode cX7_prints 197 = .ok (.iload 4, 2) := by decide +kernel
theorem dX7_prints_199 : decode cX7_prints 199 = .ok (.iload 5, 2) := by decide +kernel
theorem dX7_prints_201 : decode cX7_prints 201 = .ok (.ishr, 1) := by decide +kernel
theorem dX7_prints_202 : decode cX7_prints 202 = .ok (.iconst 1, 1) := by decide +kernel
theorem dX7_prints_203 : decode cX7_prints 203 = .ok (.iand, 1) := by decide +kernel
theorem dX7_prints_204 : decode cX7_prints 204 = .ok (.iconst 1, 1) := by decide +kernel
theorem dX7_prints_205 : decode cX7_prints 205 = .ok (.if_icmp .ne 87, 3) := by decide +kernel
theorem dX7_prints_208 : decode cX7_prints 208 = .ok (.iload 5, 2) := by decide +kernel
theorem dX7_prints_210 : decode cX7_prints 210 = .ok (.iload 6, 2) := by decide +kernel
theorem dX7_prints_212 : decode cX7_prints 212 = .ok (.invokestatic 120, 3) := by decide +kernel
theorem dX7_prints_215 : decode cX7_prints 215 = .ok (.istore 7, 2) := by decide +kernel
theorem dX7_prints_217 : decode cX7_prints 217 = .ok (.aload_n 0, 1) := by decide +kernel
theorem dX7_prints_218 : decode cX7_prints 218 = .ok (.getfield 41, 3) := by decide +kernel
theorem dX7_prints_221 : decode cX7_prints 221 = .ok (.iconst 4, 1) := by decide +kernel
theorem dX7_prints_222 : decode cX7_prints 222 = .ok (.iload 5, 2) := by decide +kernel
theorem dX7_prints_224 : decode cX7_prints 224 = .ok (.imul, 1) := by decide +kernel
theorem dX7_prints_225 : decode cX7_prints 225 = .ok (.iload 6, 2) := by decide +kernel
theorem dX7_prints_227 : decode cX7_prints 227 = .ok (.iadd, 1) := by decide +kernel
theorem dX7_prints_228 : decode cX7_prints 228 = .ok (.aload_n 0, 1) := by decide +kernel
theorem dX7_prints_229 : decode cX7_prints 229 = .ok (.iload 7, 2) := by decide +kernel
theorem dX7_prints_231 : decode cX7_prints 231 = .ok (.invokevirtual 167, 3) := by decide +kernel
theorem dX7_prints_234 : decode cX7_prints 234 = .ok (.ifCond .eq 7, 3) := by decide +kernel
theorem dX7_prints_237 : decode cX7_prints 237 = .ok (.iconst 1, 1) := by decide +kernel
theorem dX7_prints_238 : decode cX7_prints 238 = .ok (.goto 17, 3) := by decide +kernel
theorem dX7_prints_241 : decode cX7_prints 241 = .ok (.aload_n 0, 1) := by decide +kernel
theorem dX7_prints_242 : decode cX7_prints 242 = .ok (.iload 7, 2) := by decide +kernel
theorem dX7_prints_244 : decode cX7_prints 244 = .ok (.invokevirtual 170, 3) := by decide +kernel
theorem dX7_prints_247 : decode cX7_prints 247 = .ok (.ifCond .eq 7, 3) := by decide +kernel
theorem dX7_prints_250 : decode cX7_prints 250 = .ok (.iconst 2, 1) := by decide +kernel
theorem dX7_prints_251 : decode cX7_prints 251 = .ok (.goto 4, 3) := by decide +kernel
theorem dX7_prints_254 : decode cX7_prints 254 = .ok (.iconst 3, 1) := by decide +kernel
theorem dX7_prints_255 : decode cX7_prints 255 = .ok (.iastore, 1) := by decide +kernel
theorem dX7_prints_256 : decode cX7_prints 256 = .ok (.aload_n 0, 1) := by decide +kernel
theorem dX7_prints_257 : decode cX7_prints 257 = .ok (.dup, 1) := by decide +kernel
theorem dX7_prints_258 : decode cX7_prints 258 = .ok (.getfield 173, 3) := by decide +kernel
theorem dX7_prints_261 : decode cX7_prints 261 = .ok (.aload_n 0, 1) := by decide +kernel
theorem dX7_prints_262 : decode cX7_prints 262 = .ok (.getfield 41, 3) := by decide +kernel
theorem dX7_prints_265 : decode cX7_prints 265 = .ok (.iconst 4, 1) := by decide +kernel
theorem dX7_prints_266 : decode cX7_prints 266 = .ok (.iload 5, 2) := by decide +kernel
theorem dX7_prints_268 : decode cX7_prints 268 = .ok (.imul, 1) := by decide +kernel
theorem dX7_prints_269 : decode cX7_prints 269 = .ok (.iload 6, 2) := by decide +kernel
theorem dX7_prints_271 : decode cX7_prints 271 = .ok (.iadd, 1) := by decide +kernel
theorem dX7_prints_272 : decode cX7_prints 272 = .ok (.iaload, 1) := by decide +kernel
theorem dX7_prints_273 : decode cX7_prints 273 = .ok (.iconst 3, 1) := by decide +kernel
theorem dX7_prints_274 : decode cX7_prints 274 = .ok (.if_icmp .ne 7, 3) := by decide +kernel
theorem dX7_prints_277 : decode cX7_prints 277 = .ok (.iconst 1, 1) := by decide +kernel
theorem dX7_prints_278 : decode cX7_prints 278 = .ok (.goto 4, 3) := by decide +kernel
theorem dX7_prints_281 : decode cX7_prints 281 = .ok (.iconst 0, 1) := by decide +kernel
theorem dX7_prints_282 : decode cX7_prints 282 = .ok (.iadd, 1) := by decide +kernel
theorem dX7_prints_283 : decode cX7_prints 283 = .ok (.putfield 173, 3) := by decide +kernel
theorem dX7_prints_286 : decode cX7_prints 286 = .ok (.iinc 6 1, 3) := by decide +kernel
theorem dX7_prints_289 : decode cX7_prints 289 = .ok (.goto (-104), 3) := by decide +kernel
theorem dX7_prints_292 : decode cX7_prints 292 = .ok (.iinc 5 1, 3) := by decide +kernel
theorem dX7_prints_295 : decode cX7_prints 295 = .ok (.goto (-122), 3) := by decide +kernel
theorem dX7_prints_298 : decode cX7_prints 298 = .ok (.iload_n 3, 1) := by decide +kernel
theorem dX7_prints_299 : decode cX7_prints 299 = .ok (.ireturn, 1) := by decide +kernel
theorem dX7_print_0 : decode cX7_print 0 = .ok (.aload_n 0, 1) := by decide +kernel
theorem dX7_print_1 : decode cX7_print 1 = .ok (.iload_n 1, 1) := by decide +kernel
theorem dX7_print_2 : decode cX7_print 2 = .ok (.iconst 0, 1) := by decide +kernel
theorem dX7_print_3 : decode cX7_print 3 = .ok (.aload_n 0, 1) := by decide +kernel
theorem dX7_print_4 : decode cX7_print 4 = .ok (.getfield 96, 3) := by decide +kernel
theorem dX7_print_7 : decode cX7_print 7 = .ok (.iconst 1, 1) := by decide +kernel
theorem dX7_print_8 : decode cX7_print 8 = .ok (.isub, 1) := by decide +kernel
theorem dX7_print_9 : decode cX7_print 9 = .ok (.invokestatic 81, 3) := by decide +kernel
theorem dX7_print_12 : decode cX7_print 12 = .ok (.ifCond .ne 7, 3) := by decide +kernel
theorem dX7_print_15 : decode cX7_print 15 = .ok (.iconst 1, 1) := by decide +kernel
theorem dX7_print_16 : decode cX7_print 16 = .ok (.goto 16, 3) := by decide +kernel
theorem dX7_print_19 : decode cX7_print 19 = .ok (.iload_n 1, 1) := by decide +kernel
theorem dX7_print_20 : decode cX7_print 20 = .ok (.aload_n 0, 1) := by decide +kernel
theorem dX7_print_21 : decode cX7_print 21 = .ok (.getfield 107, 3) := by decide +kernel
theorem dX7_print_24 : decode cX7_print 24 = .ok (.if_icmp .ne 7, 3) := by decide +kernel
theorem dX7_print_27 : decode cX7_print 27 = .ok (.iconst 0, 1) := by decide +kernel
theorem dX7_print_28 : decode cX7_print 28 = .ok (.goto 4, 3) := by decide +kernel
theorem dX7_print_31 : decode cX7_print 31 = .ok (.iconst 2, 1) := by decide +kernel
theorem dX7_print_32 : decode cX7_print 32 = .ok (.invokevirtual 103, 3) := by decide +kernel
theorem dX7_print_35 : decode cX7_print 35 = .ok (.ifCond .ne 5, 3) := by decide +kernel
theorem dX7_print_38 : decode cX7_print 38 = .ok (.iconst 0, 1) := by decide +kernel
theorem dX7_print_39 : decode cX7_print 39 = .ok (.ireturn, 1) := by decide +kernel
theorem dX7_print_40 : decode cX7_print 40 = .ok (.aload_n 0, 1) := by decide +kernel
theorem dX7_print_41 : decode cX7_print 41 = .ok (.dup, 1) := by decide +kernel
theorem dX7_print_42 : decode cX7_print 42 = .ok (.getfield 107, 3) := by decide +kernel
theorem dX7_print_45 : decode cX7_print 45 = .ok (.iconst 1, 1) := by decide +kernel
theorem dX7_print_46 : decode cX7_print 46 = .ok (.iadd, 1) := by decide +kernel
theorem dX7_print_47 : decode cX7_print 47 = .ok (.putfield 107, 3) := by decide +kernel
theorem dX7_print_50 : decode cX7_print 50 = .ok (.aload_n 0, 1) := by decide +kernel
theorem dX7_print_51 : decode cX7_print 51 = .ok (.iload_n 1, 1) := by decide +kernel
theorem dX7_print_52 : decode cX7_print 52 = .ok (.iload_n 1, 1) := by decide +kernel
theorem dX7_print_53 : decode cX7_print 53 = .ok (.invokevirtual 176, 3) := by decide +kernel
theorem dX7_print_56 : decode cX7_print 56 = .ok (.ireturn, 1) := by decide +kernel
theorem dX7_isOpen_0 : decode cX7_isOpen 0 = .ok (.iload_n 1, 1) := by decide +kernel
theorem dX7_isOpen_1 : decode cX7_isOpen 1 = .ok (.iload_n 2, 1) := by decide +kernel
theorem dX7_isOpen_2 : decode cX7_isOpen 2 = .ok (.invokestatic 120, 3) := by decide +kernel
theorem dX7_isOpen_5 : decode cX7_isOpen 5 = .ok (.istore_n 3, 1) := by decide +kernel
theorem dX7_isOpen_6 : decode cX7_isOpen 6 = .ok (.aload_n 0, 1) := by decide +kernel
theorem dX7_isOpen_7 : decode cX7_isOpen 7 = .ok (.getfield 41, 3) := by decide +kernel
theorem dX7_isOpen_10 : decode cX7_isOpen 10 = .ok (.iconst 4, 1) := by decide +kernel
theorem dX7_isOpen_11 : decode cX7_isOpen 11 = .ok (.iload_n 1, 1) := by decide +kernel
theorem dX7_isOpen_12 : decode cX7_isOpen 12 = .ok (.imul, 1) := by decide +kernel
theorem dX7_isOpen_13 : decode cX7_isOpen 13 = .ok (.iload_n 2, 1) := by decide +kernel
theorem dX7_isOpen_14 : decode cX7_isOpen 14 = .ok (.iadd, 1) := by decide +kernel
theorem dX7_isOpen_15 : decode cX7_isOpen 15 = .ok (.iaload, 1) := by decide +kernel
theorem dX7_isOpen_16 : decode cX7_isOpen 16 = .ok (.iconst 2, 1) := by decide +kernel
theorem dX7_isOpen_17 : decode cX7_isOpen 17 = .ok (.if_icmp .ne 23, 3) := by decide +kernel
theorem dX7_isOpen_20 : decode cX7_isOpen 20 = .ok (.aload_n 0, 1) := by decide +kernel
theorem dX7_isOpen_21 : decode cX7_isOpen 21 = .ok (.iload_n 3, 1) := by decide +kernel
theorem dX7_isOpen_22 : decode cX7_isOpen 22 = .ok (.invokevirtual 170, 3) := by decide +kernel
theorem dX7_isOpen_25 : decode cX7_isOpen 25 = .ok (.ifCond .ne 15, 3) := by decide +kernel
theorem dX7_isOpen_28 : decode cX7_isOpen 28 = .ok (.aload_n 0, 1) := by decide +kernel
theorem dX7_isOpen_29 : decode cX7_isOpen 29 = .ok (.iload_n 3, 1) := by decide +kernel
theorem dX7_isOpen_30 : decode cX7_isOpen 30 = .ok (.invokevirtual 167, 3) := by decide +kernel
theorem dX7_isOpen_33 : decode cX7_isOpen 33 = .ok (.ifCond .ne 7, 3) := by decide +kernel
theorem dX7_isOpen_36 : decode cX7_isOpen 36 = .ok (.iconst 1, 1) := by decide +kernel
theorem dX7_isOpen_37 : decode cX7_isOpen 37 = .ok (.goto 4, 3) := by decide +kernel
theorem dX7_isOpen_40 : decode cX7_isOpen 40 = .ok (.iconst 0, 1) := by decide +kernel
theorem dX7_isOpen_41 : decode cX7_isOpen 41 = .ok (.ireturn, 1) := by decide +kernel
theorem dX7_supplement_0 : decode cX7_supplement 0 = .ok (.aload_n 0, 1) := by decide +kernel
theorem dX7_supplement_1 : decode cX7_supplement 1 = .ok (.aload_n 0, 1) := by decide +kernel
theorem dX7_supplement_2 : decode cX7_supplement 2 = .ok (.getfield 107, 3) := by decide +kernel
theorem dX7_supplement_5 : decode cX7_supplement 5 = .ok (.ifCond .ne 7, 3) := by decide +kernel
theorem dX7_supplement_8 : decode cX7_supplement 8 = .ok (.iconst 1, 1) := by decide +kernel
theorem dX7_supplement_9 : decode cX7_supplement 9 = .ok (.goto 4, 3) := by decide +kernel
theorem dX7_supplement_12 : decode cX7_supplement 12 = .ok (.iconst 0, 1) := by decide +kernel
theorem dX7_supplement_13 : decode cX7_supplement 13 = .ok (.invokevirtual 103, 3) := by decide +kernel
theorem dX7_supplement_16 : decode cX7_supplement 16 = .ok (.ifCond .ne 5, 3) := by decide +kernel
theorem dX7_supplement_19 : decode cX7_supplement 19 = .ok (.iconst 0, 1) := by decide +kernel
theorem dX7_supplement_20 : decode cX7_supplement 20 = .ok (.ireturn, 1) := by decide +kernel
theorem dX7_supplement_21 : decode cX7_supplement 21 = .ok (.aload_n 0, 1) := by decide +kernel
theorem dX7_supplement_22 : decode cX7_supplement 22 = .ok (.iconst 0, 1) := by decide +kernel
theorem dX7_supplement_23 : decode cX7_supplement 23 = .ok (.aload_n 0, 1) := by decide +kernel
theorem dX7_supplement_24 : decode cX7_supplement 24 = .ok (.getfield 107, 3) := by decide +kernel
theorem dX7_supplement_27 : decode cX7_supplement 27 = .ok (.iconst 1, 1) := by decide +kernel
theorem dX7_supplement_28 : decode cX7_supplement 28 = .ok (.isub, 1) := by decide +kernel
theorem dX7_supplement_29 : decode cX7_supplement 29 = .ok (.invokevirtual 176, 3) := by decide +kernel
theorem dX7_supplement_32 : decode cX7_supplement 32 = .ok (.istore_n 1, 1) := by decide +kernel
theorem dX7_supplement_33 : decode cX7_supplement 33 = .ok (.iconst 0, 1) := by decide +kernel
theorem dX7_supplement_34 : decode cX7_supplement 34 = .ok (.istore_n 2, 1) := by decide +kernel
theorem dX7_supplement_35 : decode cX7_supplement 35 = .ok (.iconst 0, 1) := by decide +kernel
theorem dX7_supplement_36 : decode cX7_supplement 36 = .ok (.istore_n 3, 1) := by decide +kernel
theorem dX7_supplement_37 : decode cX7_supplement 37 = .ok (.iload_n 3, 1) := by decide +kernel
theorem dX7_supplement_38 : decode cX7_supplement 38 = .ok (.aload_n 0, 1) := by decide +kernel
theorem dX7_supplement_39 : decode cX7_supplement 39 = .ok (.getfield 78, 3) := by decide +kernel
theorem dX7_supplement_42 : decode cX7_supplement 42 = .ok (.if_icmp .ge 164, 3) := by decide +kernel
theorem dX7_supplement_45 : decode cX7_supplement 45 = .ok (.iconst 0, 1) := by decide +kernel
theorem dX7_supplement_46 : decode cX7_supplement 46 = .ok (.istore 4, 2) := by decide +kernel
theorem dX7_supplement_48 : decode cX7_supplement 48 = .ok (.iload 4, 2) := by decide +kernel
theorem dX7_supplement_50 : decode cX7_supplement 50 = .ok (.bipush 8, 2) := by decide +kernel
theorem dX7_supplement_52 : decode cX7_supplement 52 = .ok (.if_icmp .ge 103, 3) := by decide +kernel
theorem dX7_supplement_55 : decode cX7_supplement 55 = .ok (.aload_n 0, 1) := by decide +kernel
theorem dX7_supplement_56 : decode cX7_supplement 56 = .ok (.getfield 22, 3) := by decide +kernel
theorem dX7_supplement_59 : decode cX7_supplement 59 = .ok (.iload_n 3, 1) := by decide +kernel
theorem dX7_supplement_60 : decode cX7_supplement 60 = .ok (.iaload, 1) := by decide +kernel
theorem dX7_supplement_61 : decode cX7_supplement 61 = .ok (.iconst 3, 1) := by decide +kernel
theorem dX7_supplement_62 : decode cX7_supplement 62 = .ok (.if_icmp .ne 93, 3) := by decide +kernel
theorem dX7_supplement_65 : decode cX7_supplement 65 = .ok (.aload_n 0, 1) := by decide +kernel
theorem dX7_supplement_66 : decode cX7_supplement 66 = .ok (.getfield 44, 3) := by decide +kernel
theorem dX7_supplement_69 : decode cX7_supplement 69 = .ok (.bipush 8, 2) := by decide +kernel
theorem dX7_supplement_71 : decode cX7_supplement 71 = .ok (.iload_n 3, 1) := by decide +kernel
theorem dX7_supplement_72 : decode cX7_supplement 72 = .ok (.imul, 1) := by decide +kernel
theorem dX7_supplement_73 : decode cX7_supplement 73 = .ok (.iload 4, 2) := by decide +kernel
theorem dX7_supplement_75 : decode cX7_supplement 75 = .ok (.iadd, 1) := by decide +kernel
theorem dX7_supplement_76 : decode cX7_supplement 76 = .ok (.baload, 1) := by decide +kernel
theorem dX7_supplement_77 : decode cX7_supplement 77 = .ok (.ifCond .eq 72, 3) := by decide +kernel
theorem dX7_supplement_80 : decode cX7_supplement 80 = .ok (.aload_n 0, 1) := by decide +kernel
theorem dX7_supplement_81 : decode cX7_supplement 81 = .ok (.getfield 47, 3) := by decide +kernel
theorem dX7_supplement_84 : decode cX7_supplement 84 = .ok (.bipush 8, 2) := by decide +kernel
theorem dX7_supplement_86 : decode cX7_supplement 86 = .ok (.iload_n 3, 1) := by decide +kernel
theorem dX7_supplement_87 : decode cX7_supplement 87 = .ok (.imul, 1) := by decide +kernel
theorem dX7_supplement_88 : decode cX7_supplement 88 = .ok (.iload 4, 2) := by decide +kernel
theorem dX7_supplement_90 : decode cX7_supplement 90 = .ok (.iadd, 1) := by decide +kernel
theorem dX7_supplement_91 : decode cX7_supplement 91 = .ok (.iaload, 1) := by decide +kernel
theorem dX7_supplement_92 : decode cX7_supplement 92 = .ok (.aload_n 0, 1) := by decide +kernel
theorem dX7_supplement_93 : decode cX7_supplement 93 = .ok (.getfield 53, 3) := by decide +kernel
theorem dX7_supplement_96 : decode cX7_supplement 96 = .ok (.iload 4, 2) := by decide +kernel
theorem dX7_supplement_98 : decode cX7_supplement 98 = .ok (.iaload, 1) := by decide +kernel
theorem dX7_supplement_99 : decode cX7_supplement 99 = .ok (.if_icmp .eq 50, 3) := by decide +kernel
theorem dX7_supplement_102 : decode cX7_supplement 102 = .ok (.aload_n 0, 1) := by decide +kernel
theorem dX7_supplement_103 : decode cX7_supplement 103 = .ok (.getfield 47, 3) := by decide +kernel
theorem dX7_supplement_106 : decode cX7_supplement 106 = .ok (.bipush 8, 2) := by decide +kernel
theorem dX7_supplement_108 : decode cX7_supplement 108 = .ok (.iload_n 3, 1) := by decide +kernel
theorem dX7_supplement_109 : decode cX7_supplement 109 = .ok (.imul, 1) := by decide +kernel
theorem dX7_supplement_110 : decode cX7_supplement 110 = .ok (.iload 4, 2) := by decide +kernel
theorem dX7_supplement_112 : decode cX7_supplement 112 = .ok (.iadd, 1) := by decide +kernel
theorem dX7_supplement_113 : decode cX7_supplement 113 = .ok (.aload_n 0, 1) := by decide +kernel
theorem dX7_supplement_114 : decode cX7_supplement 114 = .ok (.getfield 53, 3) := by decide +kernel
theorem dX7_supplement_117 : decode cX7_supplement 117 = .ok (.iload 4, 2) := by decide +kernel
theorem dX7_supplement_119 : decode cX7_supplement 119 = .ok (.iaload, 1) := by decide +kernel
theorem dX7_supplement_120 : decode cX7_supplement 120 = .ok (.iastore, 1) := by decide +kernel
theorem dX7_supplement_121 : decode cX7_supplement 121 = .ok (.iinc 2 1, 3) := by decide +kernel
theorem dX7_supplement_124 : decode cX7_supplement 124 = .ok (.aload_n 0, 1) := by decide +kernel
theorem dX7_supplement_125 : decode cX7_supplement 125 = .ok (.getfield 25, 3) := by decide +kernel
theorem dX7_supplement_128 : decode cX7_supplement 128 = .ok (.iload_n 3, 1) := by decide +kernel
theorem dX7_supplement_129 : decode cX7_supplement 129 = .ok (.iaload, 1) := by decide +kernel
theorem dX7_supplement_130 : decode cX7_supplement 130 = .ok (.iconst (-1), 1) := by decide +kernel
theorem dX7_supplement_131 : decode cX7_supplement 131 = .ok (.if_icmp .eq 18, 3) := by decide +kernel
theorem dX7_supplement_134 : decode cX7_supplement 134 = .ok (.aload_n 0, 1) := by decide +kernel
theorem dX7_supplement_135 : decode cX7_supplement 135 = .ok (.getfield 71, 3) := by decide +kernel
theorem dX7_supplement_138 : decode cX7_supplement 138 = .ok (.aload_n 0, 1) := by decide +kernel
theorem dX7_supplement_139 : decode cX7_supplement 139 = .ok (.getfield 25, 3) := by decide +kernel
theorem dX7_supplement_142 : decode cX7_supplement 142 = .ok (.iload_n 3, 1) := by decide +kernel
theorem dX7_supplement_143 : decode cX7_supplement 143 = .ok (.iaload, 1) := by decide +kernel
theorem dX7_supplement_144 : decode cX7_supplement 144 = .ok (.dup2, 1) := by decide +kernel
theorem dX7_supplement_145 : decode cX7_supplement 145 = .ok (.iaload, 1) := by decide +kernel
theorem dX7_supplement_146 : decode cX7_supplement 146 = .ok (.iconst 1, 1) := by decide +kernel
theorem dX7_supplement_147 : decode cX7_supplement 147 = .ok (.iadd, 1) := by decide +kernel
theorem dX7_supplement_148 : decode cX7_supplement 148 = .ok (.iastore, 1) := by decide +kernel
theorem dX7_supplement_149 : decode cX7_supplement 149 = .ok (.iinc 4 1, 3) := by decide +kernel
theorem dX7_supplement_152 : decode cX7_supplement 152 = .ok (.goto (-104), 3) := by decide +kernel
theorem dX7_supplement_155 : decode cX7_supplement 155 = .ok (.iconst 0, 1) := by decide +kernel
theorem dX7_supplement_156 : decode cX7_supplement 156 = .ok (.istore 4, 2) := by decide +kernel
theorem dX7_supplement_158 : decode cX7_supplement 158 = .ok (.iload 4, 2) := by decide +kernel
theorem dX7_supplement_160 : decode cX7_supplement 160 = .ok (.aload_n 0, 1) := by decide +kernel
theorem dX7_supplement_161 : decode cX7_supplement 161 = .ok (.getfield 38, 3) := by decide +kernel
theorem dX7_supplement_164 : decode cX7_supplement 164 = .ok (.iload_n 3, 1) := by decide +kernel
theorem dX7_supplement_165 : decode cX7_supplement 165 = .ok (.iaload, 1) := by decide +kernel
theorem dX7_supplement_166 : decode cX7_supplement 166 = .ok (.if_icmp .ge 34, 3) := by decide +kernel
theorem dX7_supplement_169 : decode cX7_supplement 169 = .ok (.aload_n 0, 1) := by decide +kernel
theorem dX7_supplement_170 : decode cX7_supplement 170 = .ok (.iload_n 3, 1) := by decide +kernel
theorem dX7_supplement_171 : decode cX7_supplement 171 = .ok (.iload 4, 2) := by decide +kernel
theorem dX7_supplement_173 : decode cX7_supplement 173 = .ok (.invokevirtual 179, 3) := by decide +kernel
theorem dX7_supplement_176 : decode cX7_supplement 176 = .ok (.ifCond .eq 18, 3) := by decide +kernel
theorem dX7_supplement_179 : decode cX7_supplement 179 = .ok (.aload_n 0, 1) := by decide +kernel
theorem dX7_supplement_180 : decode cX7_supplement 180 = .ok (.getfield 41, 3) := by decide +kernel
theorem dX7_supplement_183 : decode cX7_supplement 183 = .ok (.iconst 4, 1) := by decide +kernel
theorem dX7_supplement_184 : decode cX7_supplement 184 = .ok (.iload_n 3, 1) := by decide +kernel
theorem dX7_supplement_185 : decode cX7_supplement 185 = .ok (.imul, 1) := by decide +kernel
theorem dX7_supplement_186 : decode cX7_supplement 186 = .ok (.iload 4, 2) := by decide +kernel
theorem dX7_supplement_188 : decode cX7_supplement 188 = .ok (.iadd, 1) := by decide +kernel
theorem dX7_supplement_189 : decode cX7_supplement 189 = .ok (.iconst 4, 1) := by decide +kernel
theorem dX7_supplement_190 : decode cX7_supplement 190 = .ok (.iastore, 1) := by decide +kernel
theorem dX7_supplement_191 : decode cX7_supplement 191 = .ok (.iinc 2 1, 3) := by decide +kernel
theorem dX7_supplement_194 : decode cX7_supplement 194 = .ok (.iinc 4 1, 3) := by decide +kernel
theorem dX7_supplement_197 : decode cX7_supplement 197 = .ok (.goto (-39), 3) := by decide +kernel
theorem dX7_supplement_200 : decode cX7_supplement 200 = .ok (.iinc 3 1, 3) := by decide +kernel
theorem dX7_supplement_203 : decode cX7_supplement 203 = .ok (.goto (-166), 3) := by decide +kernel
theorem dX7_supplement_206 : decode cX7_supplement 206 = .ok (.bipush 100, 2) := by decide +kernel
theorem dX7_supplement_208 : decode cX7_supplement 208 = .ok (.iload_n 1, 1) := by decide +kernel
theorem dX7_supplement_209 : decode cX7_supplement 209 = .ok (.imul, 1) := by decide +kernel
theorem dX7_supplement_210 : decode cX7_supplement 210 = .ok (.iload_n 2, 1) := by decide +kernel
theorem dX7_supplement_211 : decode cX7_supplement 211 = .ok (.iadd, 1) := by decide +kernel
theorem dX7_supplement_212 : decode cX7_supplement 212 = .ok (.ireturn, 1) := by decide +kernel
theorem dX7_month_0 : decode cX7_month 0 = .ok (.aload_n 0, 1) := by decide +kernel
theorem dX7_month_1 : decode cX7_month 1 = .ok (.iconst 0, 1) := by decide +kernel
theorem dX7_month_2 : decode cX7_month 2 = .ok (.putfield 74, 3) := by decide +kernel
theorem dX7_month_5 : decode cX7_month 5 = .ok (.aload_n 0, 1) := by decide +kernel
theorem dX7_month_6 : decode cX7_month 6 = .ok (.getfield 148, 3) := by decide +kernel
theorem dX7_month_9 : decode cX7_month 9 = .ok (.ireturn, 1) := by decide +kernel
theorem dX7_at_0 : decode cX7_at 0 = .ok (.aload_n 0, 1) := by decide +kernel
theorem dX7_at_1 : decode cX7_at 1 = .ok (.iload_n 1, 1) := by decide +kernel
theorem dX7_at_2 : decode cX7_at 2 = .ok (.ifCond .ge 7, 3) := by decide +kernel
theorem dX7_at_5 : decode cX7_at 5 = .ok (.iconst 1, 1) := by decide +kernel
theorem dX7_at_6 : decode cX7_at 6 = .ok (.goto 4, 3) := by decide +kernel
theorem dX7_at_9 : decode cX7_at 9 = .ok (.iconst 0, 1) := by decide +kernel
theorem dX7_at_10 : decode cX7_at 10 = .ok (.invokevirtual 103, 3) := by decide +kernel
theorem dX7_at_13 : decode cX7_at 13 = .ok (.ifCond .ne 5, 3) := by decide +kernel
theorem dX7_at_16 : decode cX7_at 16 = .ok (.iconst 0, 1) := by decide +kernel
theorem dX7_at_17 : decode cX7_at 17 = .ok (.ireturn, 1) := by decide +kernel
theorem dX7_at_18 : decode cX7_at 18 = .ok (.iconst 0, 1) := by decide +kernel
theorem dX7_at_19 : decode cX7_at 19 = .ok (.istore_n 2, 1) := by decide +kernel
theorem dX7_at_20 : decode cX7_at 20 = .ok (.iload_n 2, 1) := by decide +kernel
theorem dX7_at_21 : decode cX7_at 21 = .ok (.aload_n 0, 1) := by decide +kernel
theorem dX7_at_22 : decode cX7_at 22 = .ok (.getfield 78, 3) := by decide +kernel
theorem dX7_at_25 : decode cX7_at 25 = .ok (.if_icmp .ge 60, 3) := by decide +kernel
theorem dX7_at_28 : decode cX7_at 28 = .ok (.iconst 0, 1) := by decide +kernel
theorem dX7_at_29 : decode cX7_at 29 = .ok (.istore_n 3, 1) := by decide +kernel
theorem dX7_at_30 : decode cX7_at 30 = .ok (.iconst 0, 1) := by decide +kernel
theorem dX7_at_31 : decode cX7_at 31 = .ok (.istore 4, 2) := by decide +kernel
theorem dX7_at_33 : decode cX7_at 33 = .ok (.iload 4, 2) := by decide +kernel
theorem dX7_at_35 : decode cX7_at 35 = .ok (.aload_n 0, 1) := by decide +kernel
theorem dX7_at_36 : decode cX7_at 36 = .ok (.getfield 78, 3) := by decide +kernel
theorem dX7_at_39 : decode cX7_at 39 = .ok (.if_icmp .ge 33, 3) := by decide +kernel
theorem dX7_at_42 : decode cX7_at 42 = .ok (.iload_n 3, 1) := by decide +kernel
theorem dX7_at_43 : decode cX7_at 43 = .ok (.iload 4, 2) := by decide +kernel
theorem dX7_at_45 : decode cX7_at 45 = .ok (.iload_n 2, 1) := by decide +kernel
theorem dX7_at_46 : decode cX7_at 46 = .ok (.if_icmp .eq 17, 3) := by decide +kernel
theorem dX7_at_49 : decode cX7_at 49 = .ok (.aload_n 0, 1) := by decide +kernel
theorem dX7_at_50 : decode cX7_at 50 = .ok (.iload 4, 2) := by decide +kernel
theorem dX7_at_52 : decode cX7_at 52 = .ok (.iload_n 2, 1) := by decide +kernel
theorem dX7_at_53 : decode cX7_at 53 = .ok (.invokevirtual 132, 3) := by decide +kernel
theorem dX7_at_56 : decode cX7_at 56 = .ok (.ifCond .eq 7, 3) := by decide +kernel
theorem dX7_at_59 : decode cX7_at 59 = .ok (.iconst 1, 1) := by decide +kernel
theorem dX7_at_60 : decode cX7_at 60 = .ok (.goto 4, 3) := by decide +kernel
theorem dX7_at_63 : decode cX7_at 63 = .ok (.iconst 0, 1) := by decide +kernel
theorem dX7_at_64 : decode cX7_at 64 = .ok (.iadd, 1) := by decide +kernel
theorem dX7_at_65 : decode cX7_at 65 = .ok (.istore_n 3, 1) := by decide +kernel
theorem dX7_at_66 : decode cX7_at 66 = .ok (.iinc 4 1, 3) := by decide +kernel
theorem dX7_at_69 : decode cX7_at 69 = .ok (.goto (-36), 3) := by decide +kernel
theorem dX7_at_72 : decode cX7_at 72 = .ok (.iload_n 3, 1) := by decide +kernel
theorem dX7_at_73 : decode cX7_at 73 = .ok (.iload_n 1, 1) := by decide +kernel
theorem dX7_at_74 : decode cX7_at 74 = .ok (.if_icmp .ne 5, 3) := by decide +kernel
theorem dX7_at_77 : decode cX7_at 77 = .ok (.iload_n 2, 1) := by decide +kernel
theorem dX7_at_78 : decode cX7_at 78 = .ok (.ireturn, 1) := by decide +kernel
theorem dX7_at_79 : decode cX7_at 79 = .ok (.iinc 2 1, 3) := by decide +kernel
theorem dX7_at_82 : decode cX7_at 82 = .ok (.goto (-62), 3) := by decide +kernel
theorem dX7_at_85 : decode cX7_at 85 = .ok (.iconst (-1), 1) := by decide +kernel
theorem dX7_at_86 : decode cX7_at 86 = .ok (.ireturn, 1) := by decide +kernel
theorem dX7_about_0 : decode cX7_about 0 = .ok (.aload_n 0, 1) := by decide +kernel
theorem dX7_about_1 : decode cX7_about 1 = .ok (.aload_n 0, 1) := by decide +kernel
theorem dX7_about_2 : decode cX7_about 2 = .ok (.iload_n 1, 1) := by decide +kernel
theorem dX7_about_3 : decode cX7_about 3 = .ok (.invokevirtual 117, 3) := by decide +kernel
theorem dX7_about_6 : decode cX7_about 6 = .ok (.ifCond .ne 7, 3) := by decide +kernel
theorem dX7_about_9 : decode cX7_about 9 = .ok (.iconst 1, 1) := by decide +kernel
theorem dX7_about_10 : decode cX7_about 10 = .ok (.goto 17, 3) := by decide +kernel
theorem dX7_about_13 : decode cX7_about 13 = .ok (.iload_n 2, 1) := by decide +kernel
theorem dX7_about_14 : decode cX7_about 14 = .ok (.iconst 0, 1) := by decide +kernel
theorem dX7_about_15 : decode cX7_about 15 = .ok (.iconst 4, 1) := by decide +kernel
theorem dX7_about_16 : decode cX7_about 16 = .ok (.invokestatic 81, 3) := by decide +kernel
theorem dX7_about_19 : decode cX7_about 19 = .ok (.ifCond .eq 7, 3) := by decide +kernel
theorem dX7_about_22 : decode cX7_about 22 = .ok (.iconst 0, 1) := by decide +kernel
theorem dX7_about_23 : decode cX7_about 23 = .ok (.goto 4, 3) := by decide +kernel
theorem dX7_about_26 : decode cX7_about 26 = .ok (.iconst 2, 1) := by decide +kernel
theorem dX7_about_27 : decode cX7_about 27 = .ok (.invokevirtual 103, 3) := by decide +kernel
theorem dX7_about_30 : decode cX7_about 30 = .ok (.ifCond .ne 5, 3) := by decide +kernel
theorem dX7_about_33 : decode cX7_about 33 = .ok (.iconst 0, 1) := by decide +kernel
theorem dX7_about_34 : decode cX7_about 34 = .ok (.ireturn, 1) := by decide +kernel
theorem dX7_about_35 : decode cX7_about 35 = .ok (.iload_n 2, 1) := by decide +kernel
theorem dX7_about_36 : decode cX7_about 36 = .ok (.ifCond .ne 12, 3) := by decide +kernel
theorem dX7_about_39 : decode cX7_about 39 = .ok (.aload_n 0, 1) := by decide +kernel
theorem dX7_about_40 : decode cX7_about 40 = .ok (.getfield 22, 3) := by decide +kernel
theorem dX7_about_43 : decode cX7_about 43 = .ok (.iload_n 1, 1) := by decide +kernel
theorem dX7_about_44 : decode cX7_about 44 = .ok (.iaload, 1) := by decide +kernel
theorem dX7_about_45 : decode cX7_about 45 = .ok (.goto 49, 3) := by decide +kernel
theorem dX7_about_48 : decode cX7_about 48 = .ok (.iload_n 2, 1) := by decide +kernel
theorem dX7_about_49 : decode cX7_about 49 = .ok (.iconst 1, 1) := by decide +kernel
theorem dX7_about_50 : decode cX7_about 50 = .ok (.if_icmp .ne 11, 3) := by decide +kernel
theorem dX7_about_53 : decode cX7_about 53 = .ok (.aload_n 0, 1) := by decide +kernel
theorem dX7_about_54 : decode cX7_about 54 = .ok (.iload_n 1, 1) := by decide +kernel
theorem dX7_about_55 : decode cX7_about 55 = .ok (.invokevirtual 129, 3) := by decide +kernel
theorem dX7_about_58 : decode cX7_about 58 = .ok (.goto 36, 3) := by decide +kernel
theorem dX7_about_61 : decode cX7_about 61 = .ok (.iload_n 2, 1) := by decide +kernel
theorem dX7_about_62 : decode cX7_about 62 = .ok (.iconst 2, 1) := by decide +kernel
theorem dX7_about_63 : decode cX7_about 63 = .ok (.if_icmp .ne 11, 3) := by decide +kernel
theorem dX7_about_66 : decode cX7_about 66 = .ok (.aload_n 0, 1) := by decide +kernel
theorem dX7_about_67 : decode cX7_about 67 = .ok (.iload_n 1, 1) := by decide +kernel
theorem dX7_about_68 : decode cX7_about 68 = .ok (.invokevirtual 145, 3) := by decide +kernel
theorem dX7_about_71 : decode cX7_about 71 = .ok (.goto 23, 3) := by decide +kernel
theorem dX7_about_74 : decode cX7_about 74 = .ok (.iload_n 2, 1) := by decide +kernel
theorem dX7_about_75 : decode cX7_about 75 = .ok (.iconst 3, 1) := by decide +kernel
theorem dX7_about_76 : decode cX7_about 76 = .ok (.if_icmp .ne 12, 3) := by decide +kernel
theorem dX7_about_79 : decode cX7_about 79 = .ok (.aload_n 0, 1) := by decide +kernel
theorem dX7_about_80 : decode cX7_about 80 = .ok (.getfield 25, 3) := by decide +kernel
theorem dX7_about_83 : decode cX7_about 83 = .ok (.iload_n 1, 1) := by decide +kernel
theorem dX7_about_84 : decode cX7_about 84 = .ok (.iaload, 1) := by decide +kernel
theorem dX7_about_85 : decode cX7_about 85 = .ok (.goto 9, 3) := by decide +kernel
theorem dX7_about_88 : decode cX7_about 88 = .ok (.aload_n 0, 1) := by decide +kernel
theorem dX7_about_89 : decode cX7_about 89 = .ok (.getfield 28, 3) := by decide +kernel
theorem dX7_about_92 : decode cX7_about 92 = .ok (.iload_n 1, 1) := by decide +kernel
theorem dX7_about_93 : decode cX7_about 93 = .ok (.iaload, 1) := by decide +kernel
theorem dX7_about_94 : decode cX7_about 94 = .ok (.ireturn, 1) := by decide +kernel
theorem dX7_struck_0 : decode cX7_struck 0 = .ok (.aload_n 0, 1) := by decide +kernel
theorem dX7_struck_1 : decode cX7_struck 1 = .ok (.iconst 0, 1) := by decide +kernel
theorem dX7_struck_2 : decode cX7_struck 2 = .ok (.putfield 74, 3) := by decide +kernel
theorem dX7_struck_5 : decode cX7_struck 5 = .ok (.aload_n 0, 1) := by decide +kernel
theorem dX7_struck_6 : decode cX7_struck 6 = .ok (.getfield 173, 3) := by decide +kernel
theorem dX7_struck_9 : decode cX7_struck 9 = .ok (.ireturn, 1) := by decide +kernel
theorem dX7_errata_0 : decode cX7_errata 0 = .ok (.aload_n 0, 1) := by decide +kernel
theorem dX7_errata_1 : decode cX7_errata 1 = .ok (.aload_n 0, 1) := by decide +kernel
theorem dX7_errata_2 : decode cX7_errata 2 = .ok (.iload_n 1, 1) := by decide +kernel
theorem dX7_errata_3 : decode cX7_errata 3 = .ok (.invokevirtual 136, 3) := by decide +kernel
theorem dX7_errata_6 : decode cX7_errata 6 = .ok (.ifCond .eq 7, 3) := by decide +kernel
theorem dX7_errata_9 : decode cX7_errata 9 = .ok (.iconst 0, 1) := by decide +kernel
theorem dX7_errata_10 : decode cX7_errata 10 = .ok (.goto 4, 3) := by decide +kernel
theorem dX7_errata_13 : decode cX7_errata 13 = .ok (.iconst 1, 1) := by decide +kernel
theorem dX7_errata_14 : decode cX7_errata 14 = .ok (.invokevirtual 103, 3) := by decide +kernel
theorem dX7_errata_17 : decode cX7_errata 17 = .ok (.ifCond .eq 12, 3) := by decide +kernel
theorem dX7_errata_20 : decode cX7_errata 20 = .ok (.aload_n 0, 1) := by decide +kernel
theorem dX7_errata_21 : decode cX7_errata 21 = .ok (.getfield 71, 3) := by decide +kernel
theorem dX7_errata_24 : decode cX7_errata 24 = .ok (.iload_n 1, 1) := by decide +kernel
theorem dX7_errata_25 : decode cX7_errata 25 = .ok (.iaload, 1) := by decide +kernel
theorem dX7_errata_26 : decode cX7_errata 26 = .ok (.goto 4, 3) := by decide +kernel
theorem dX7_errata_29 : decode cX7_errata 29 = .ok (.iconst 0, 1) := by decide +kernel
theorem dX7_errata_30 : decode cX7_errata 30 = .ok (.ireturn, 1) := by decide +kernel
theorem dX7_opens_0 : decode cX7_opens 0 = .ok (.iconst 0, 1) := by decide +kernel
theorem dX7_opens_1 : decode cX7_opens 1 = .ok (.istore_n 2, 1) := by decide +kernel
theorem dX7_opens_2 : decode cX7_opens 2 = .ok (.iconst 0, 1) := by decide +kernel
theorem dX7_opens_3 : decode cX7_opens 3 = .ok (.istore_n 3, 1) := by decide +kernel
theorem dX7_opens_4 : decode cX7_opens 4 = .ok (.iload_n 3, 1) := by decide +kernel
theorem dX7_opens_5 : decode cX7_opens 5 = .ok (.aload_n 0, 1) := by decide +kernel
theorem dX7_opens_6 : decode cX7_opens 6 = .ok (.getfield 78, 3) := by decide +kernel
theorem dX7_opens_9 : decode cX7_opens 9 = .ok (.if_icmp .ge 60, 3) := by decide +kernel
theorem dX7_opens_12 : decode cX7_opens 12 = .ok (.iconst 0, 1) := by decide +kernel
theorem dX7_opens_13 : decode cX7_opens 13 = .ok (.istore 4, 2) := by decide +kernel
theorem dX7_opens_15 : decode cX7_opens 15 = .ok (.iload 4, 2) := by decide +kernel
theorem dX7_opens_17 : decode cX7_opens 17 = .ok (.aload_n 0, 1) := by decide +kernel
theorem dX7_opens_18 : decode cX7_opens 18 = .ok (.getfield 38, 3) := by decide +kernel
theorem dX7_opens_21 : decode cX7_opens 21 = .ok (.iload_n 3, 1) := by decide +kernel
theorem dX7_opens_22 : decode cX7_opens 22 = .ok (.iaload, 1) := by decide +kernel
theorem dX7_opens_23 : decode cX7_opens 23 = .ok (.if_icmp .ge 40, 3) := by decide +kernel
theorem dX7_opens_26 : decode cX7_opens 26 = .ok (.iload_n 1, 1) := by decide +kernel
theorem dX7_opens_27 : decode cX7_opens 27 = .ok (.ifCond .ne 12, 3) := by decide +kernel
theorem dX7_opens_30 : decode cX7_opens 30 = .ok (.aload_n 0, 1) := by decide +kernel
theorem dX7_opens_31 : decode cX7_opens 31 = .ok (.getfield 34, 3) := by decide +kernel
theorem dX7_opens_34 : decode cX7_opens 34 = .ok (.iload_n 3, 1) := by decide +kernel
theorem dX7_opens_35 : decode cX7_opens 35 = .ok (.baload, 1) := by decide +kernel
theorem dX7_opens_36 : decode cX7_opens 36 = .ok (.ifCond .ne 27, 3) := by decide +kernel
theorem dX7_opens_39 : decode cX7_opens 39 = .ok (.iload_n 2, 1) := by decide +kernel
theorem dX7_opens_40 : decode cX7_opens 40 = .ok (.aload_n 0, 1) := by decide +kernel
theorem dX7_opens_41 : decode cX7_opens 41 = .ok (.iload_n 3, 1) := by decide +kernel
theorem dX7_opens_42 : decode cX7_opens 42 = .ok (.iload 4, 2) := by decide +kernel
theorem dX7_opens_44 : decode cX7_opens 44 = .ok (.invokevirtual 179, 3) := by decide +kernel
theorem dX7_opens_47 : decode cX7_opens 47 = .ok (.ifCond .eq 7, 3) := by decide +kernel
theorem dX7_opens_50 : decode cX7_opens 50 = .ok (.iconst 1, 1) := by decide +kernel
theorem dX7_opens_51 : decode cX7_opens 51 = .ok (.goto 4, 3) := by decide +kernel
theorem dX7_opens_54 : decode cX7_opens 54 = .ok (.iconst 0, 1) := by decide +kernel
theorem dX7_opens_55 : decode cX7_opens 55 = .ok (.iadd, 1) := by decide +kernel
theorem dX7_opens_56 : decode cX7_opens 56 = .ok (.istore_n 2, 1) := by decide +kernel
theorem dX7_opens_57 : decode cX7_opens 57 = .ok (.iinc 4 1, 3) := by decide +kernel
theorem dX7_opens_60 : decode cX7_opens 60 = .ok (.goto (-45), 3) := by decide +kernel
theorem dX7_opens_63 : decode cX7_opens 63 = .ok (.iinc 3 1, 3) := by decide +kernel
theorem dX7_opens_66 : decode cX7_opens 66 = .ok (.goto (-62), 3) := by decide +kernel
theorem dX7_opens_69 : decode cX7_opens 69 = .ok (.iload_n 2, 1) := by decide +kernel
theorem dX7_opens_70 : decode cX7_opens 70 = .ok (.ireturn, 1) := by decide +kernel
theorem dX7_open_0 : decode cX7_open 0 = .ok (.aload_n 0, 1) := by decide +kernel
theorem dX7_open_1 : decode cX7_open 1 = .ok (.iconst 0, 1) := by decide +kernel
theorem dX7_open_2 : decode cX7_open 2 = .ok (.putfield 74, 3) := by decide +kernel
theorem dX7_open_5 : decode cX7_open 5 = .ok (.aload_n 0, 1) := by decide +kernel
theorem dX7_open_6 : decode cX7_open 6 = .ok (.iload_n 1, 1) := by decide +kernel
theorem dX7_open_7 : decode cX7_open 7 = .ok (.invokevirtual 182, 3) := by decide +kernel
theorem dX7_open_10 : decode cX7_open 10 = .ok (.ireturn, 1) := by decide +kernel
theorem dX7_contradicts_0 : decode cX7_contradicts 0 = .ok (.iconst 0, 1) := by decide +kernel
theorem dX7_contradicts_1 : decode cX7_contradicts 1 = .ok (.istore_n 2, 1) := by decide +kernel
theorem dX7_contradicts_2 : decode cX7_contradicts 2 = .ok (.iconst 0, 1) := by decide +kernel
theorem dX7_contradicts_3 : decode cX7_contradicts 3 = .ok (.istore_n 3, 1) := by decide +kernel
theorem dX7_contradicts_4 : decode cX7_contradicts 4 = .ok (.iload_n 3, 1) := by decide +kernel
theorem dX7_contradicts_5 : decode cX7_contradicts 5 = .ok (.bipush 8, 2) := by decide +kernel
theorem dX7_contradicts_7 : decode cX7_contradicts 7 = .ok (.if_icmp .ge 134, 3) := by decide +kernel
theorem dX7_contradicts_10 : decode cX7_contradicts 10 = .ok (.iconst 0, 1) := by decide +kernel
theorem dX7_contradicts_11 : decode cX7_contradicts 11 = .ok (.istore 4, 2) := by decide +kernel
theorem dX7_contradicts_13 : decode cX7_contradicts 13 = .ok (.iconst 0, 1) := by decide +kernel
theorem dX7_contradicts_14 : decode cX7_contradicts 14 = .ok (.istore 5, 2) := by decide +kernel
theorem dX7_contradicts_16 : decode cX7_contradicts 16 = .ok (.iconst 0, 1) := by decide +kernel
theorem dX7_contradicts_17 : decode cX7_contradicts 17 = .ok (.istore 6, 2) := by decide +kernel
theorem dX7_contradicts_19 : decode cX7_contradicts 19 = .ok (.iconst 0, 1) := by decide +kernel
theorem dX7_contradicts_20 : decode cX7_contradicts 20 = .ok (.istore 7, 2) := by decide +kernel
theorem dX7_contradicts_22 : decode cX7_contradicts 22 = .ok (.iload 7, 2) := by decide +kernel
theorem dX7_contradicts_24 : decode cX7_contradicts 24 = .ok (.aload_n 0, 1) := by decide +kernel
theorem dX7_contradicts_25 : decode cX7_contradicts 25 = .ok (.getfield 78, 3) := by decide +kernel
theorem dX7_contradicts_28 : decode cX7_contradicts 28 = .ok (.if_icmp .ge 94, 3) := by decide +kernel
theorem dX7_contradicts_31 : decode cX7_contradicts 31 = .ok (.bipush 8, 2) := by decide +kernel
theorem dX7_contradicts_33 : decode cX7_contradicts 33 = .ok (.iload 7, 2) := by decide +kernel
theorem dX7_contradicts_35 : decode cX7_contradicts 35 = .ok (.imul, 1) := by decide +kernel
theorem dX7_contradicts_36 : decode cX7_contradicts 36 = .ok (.iload_n 3, 1) := by decide +kernel
theorem dX7_contradicts_37 : decode cX7_contradicts 37 = .ok (.iadd, 1) := by decide +kernel
theorem dX7_contradicts_38 : decode cX7_contradicts 38 = .ok (.istore 8, 2) := by decide +kernel
theorem dX7_contradicts_40 : decode cX7_contradicts 40 = .ok (.aload_n 0, 1) := by decide +kernel
theorem dX7_contradicts_41 : decode cX7_contradicts 41 = .ok (.getfield 22, 3) := by decide +kernel
theorem dX7_contradicts_44 : decode cX7_contradicts 44 = .ok (.iload 7, 2) := by decide +kernel
theorem dX7_contradicts_46 : decode cX7_contradicts 46 = .ok (.iaload, 1) := by decide +kernel
theorem dX7_contradicts_47 : decode cX7_contradicts 47 = .ok (.iconst 3, 1) := by decide +kernel
theorem dX7_contradicts_48 : decode cX7_contradicts 48 = .ok (.if_icmp .ne 68, 3) := by decide +kernel
theorem dX7_contradicts_51 : decode cX7_contradicts 51 = .ok (.aload_n 0, 1) := by decide +kernel
theorem dX7_contradicts_52 : decode cX7_contradicts 52 = .ok (.getfield 44, 3) := by decide +kernel
theorem dX7_contradicts_55 : decode cX7_contradicts 55 = .ok (.iload 8, 2) := by decide +kernel
theorem dX7_contradicts_57 : decode cX7_contradicts 57 = .ok (.baload, 1) := by decide +kernel
theorem dX7_contradicts_58 : decode cX7_contradicts 58 = .ok (.ifCond .eq 58, 3) := by decide +kernel
theorem dX7_contradicts_61 : decode cX7_contradicts 61 = .ok (.iload_n 1, 1) := by decide +kernel
theorem dX7_contradicts_62 : decode cX7_contradicts 62 = .ok (.ifCond .ne 13, 3) := by decide +kernel
theorem dX7_contradicts_65 : decode cX7_contradicts 65 = .ok (.aload_n 0, 1) := by decide +kernel
theorem dX7_contradicts_66 : decode cX7_contradicts 66 = .ok (.getfield 34, 3) := by decide +kernel
theorem dX7_contradicts_69 : decode cX7_contradicts 69 = .ok (.iload 7, 2) := by decide +kernel
theorem dX7_contradicts_71 : decode cX7_contradicts 71 = .ok (.baload, 1) := by decide +kernel
theorem dX7_contradicts_72 : decode cX7_contradicts 72 = .ok (.ifCond .ne 44, 3) := by decide +kernel
theorem dX7_contradicts_75 : decode cX7_contradicts 75 = .ok (.iload 5, 2) := by decide +kernel
theorem dX7_contradicts_77 : decode cX7_contradicts 77 = .ok (.ifCond .ne 20, 3) := by decide +kernel
theorem dX7_contradicts_80 : decode cX7_contradicts 80 = .ok (.iload 4, 2) := by decide +kernel
theorem dX7_contradicts_82 : decode cX7_contradicts 82 = .ok (.ifCond .eq 19, 3) := by decide +kernel
theorem dX7_contradicts_85 : decode cX7_contradicts 85 = .ok (.aload_n 0, 1) := by decide +kernel
theorem dX7_contradicts_86 : decode cX7_contradicts 86 = .ok (.getfield 47, 3) := by decide +kernel
theorem dX7_contradicts_89 : decode cX7_contradicts 89 = .ok (.iload 8, 2) := by decide +kernel
theorem dX7_contradicts_91 : decode cX7_contradicts 91 = .ok (.iaload, 1) := by decide +kernel
theorem dX7_contradicts_92 : decode cX7_contradicts 92 = .ok (.iload 6, 2) := by decide +kernel
theorem dX7_contradicts_94 : decode cX7_contradicts 94 = .ok (.if_icmp .eq 7, 3) := by decide +kernel
theorem dX7_contradicts_97 : decode cX7_contradicts 97 = .ok (.iconst 1, 1) := by decide +kernel
theorem dX7_contradicts_98 : decode cX7_contradicts 98 = .ok (.goto 4, 3) := by decide +kernel
theorem dX7_contradicts_101 : decode cX7_contradicts 101 = .ok (.iconst 0, 1) := by decide +kernel
theorem dX7_contradicts_102 : decode cX7_contradicts 102 = .ok (.istore 5, 2) := by decide +kernel
theorem dX7_contradicts_104 : decode cX7_contradicts 104 = .ok (.aload_n 0, 1) := by decide +kernel
theorem dX7_contradicts_105 : decode cX7_contradicts 105 = .ok (.getfield 47, 3) := by decide +kernel
theorem dX7_contradicts_108 : decode cX7_contradicts 108 = .ok (.iload 8, 2) := by decide +kernel
theorem dX7_contradicts_110 : decode cX7_contradicts 110 = .ok (.iaload, 1) := by decide +kernel
theorem dX7_contradicts_111 : decode cX7_contradicts 111 = .ok (.istore 6, 2) := by decide +kernel
theorem dX7_contradicts_113 : decode cX7_contradicts 113 = .ok (.iconst 1, 1) := by decide +kernel
theorem dX7_contradicts_114 : decode cX7_contradicts 114 = .ok (.istore 4, 2) := by decide +kernel
theorem dX7_contradicts_116 : decode cX7_contradicts 116 = .ok (.iinc 7 1, 3) := by decide +kernel
theorem dX7_contradicts_119 : decode cX7_contradicts 119 = .ok (.goto (-97), 3) := by decide +kernel
theorem dX7_contradicts_122 : decode cX7_contradicts 122 = .ok (.iload_n 2, 1) := by decide +kernel
theorem dX7_contradicts_123 : decode cX7_contradicts 123 = .ok (.iload 5, 2) := by decide +kernel
theorem dX7_contradicts_125 : decode cX7_contradicts 125 = .ok (.ifCond .eq 7, 3) := by decide +kernel
theorem dX7_contradicts_128 : decode cX7_contradicts 128 = .ok (.iconst 1, 1) := by decide +kernel
theorem dX7_contradicts_129 : decode cX7_contradicts 129 = .ok (.goto 4, 3) := by decide +kernel
theorem dX7_contradicts_132 : decode cX7_contradicts 132 = .ok (.iconst 0, 1) := by decide +kernel
theorem dX7_contradicts_133 : decode cX7_contradicts 133 = .ok (.iadd, 1) := by decide +kernel
theorem dX7_contradicts_134 : decode cX7_contradicts 134 = .ok (.istore_n 2, 1) := by decide +kernel
theorem dX7_contradicts_135 : decode cX7_contradicts 135 = .ok (.iinc 3 1, 3) := by decide +kernel
theorem dX7_contradicts_138 : decode cX7_contradicts 138 = .ok (.goto (-134), 3) := by decide +kernel
theorem dX7_contradicts_141 : decode cX7_contradicts 141 = .ok (.iload_n 2, 1) := by decide +kernel
theorem dX7_contradicts_142 : decode cX7_contradicts 142 = .ok (.ireturn, 1) := by decide +kernel
theorem dX7_contradictions_0 : decode cX7_contradictions 0 = .ok (.aload_n 0, 1) := by decide +kernel
theorem dX7_contradictions_1 : decode cX7_contradictions 1 = .ok (.iconst 0, 1) := by decide +kernel
theorem dX7_contradictions_2 : decode cX7_contradictions 2 = .ok (.putfield 74, 3) := by decide +kernel
theorem dX7_contradictions_5 : decode cX7_contradictions 5 = .ok (.aload_n 0, 1) := by decide +kernel
theorem dX7_contradictions_6 : decode cX7_contradictions 6 = .ok (.iload_n 1, 1) := by decide +kernel
theorem dX7_contradictions_7 : decode cX7_contradictions 7 = .ok (.invokevirtual 186, 3) := by decide +kernel
theorem dX7_contradictions_10 : decode cX7_contradictions 10 = .ok (.ireturn, 1) := by decide +kernel
theorem dX7_readAnew_0 : decode cX7_readAnew 0 = .ok (.aload_n 0, 1) := by decide +kernel
theorem dX7_readAnew_1 : decode cX7_readAnew 1 = .ok (.iconst 0, 1) := by decide +kernel
theorem dX7_readAnew_2 : decode cX7_readAnew 2 = .ok (.putfield 74, 3) := by decide +kernel
theorem dX7_readAnew_5 : decode cX7_readAnew 5 = .ok (.bipush 100, 2) := by decide +kernel
theorem dX7_readAnew_7 : decode cX7_readAnew 7 = .ok (.aload_n 0, 1) := by decide +kernel
theorem dX7_readAnew_8 : decode cX7_readAnew 8 = .ok (.iload_n 1, 1) := by decide +kernel
theorem dX7_readAnew_9 : decode cX7_readAnew 9 = .ok (.invokevirtual 182, 3) := by decide +kernel
theorem dX7_readAnew_12 : decode cX7_readAnew 12 = .ok (.imul, 1) := by decide +kernel
theorem dX7_readAnew_13 : decode cX7_readAnew 13 = .ok (.aload_n 0, 1) := by decide +kernel
theorem dX7_readAnew_14 : decode cX7_readAnew 14 = .ok (.iload_n 1, 1) := by decide +kernel
theorem dX7_readAnew_15 : decode cX7_readAnew 15 = .ok (.invokevirtual 186, 3) := by decide +kernel
theorem dX7_readAnew_18 : decode cX7_readAnew 18 = .ok (.iadd, 1) := by decide +kernel
theorem dX7_readAnew_19 : decode cX7_readAnew 19 = .ok (.ireturn, 1) := by decide +kernel
theorem dX7_synopsis_0 : decode cX7_synopsis 0 = .ok (.aload_n 0, 1) := by decide +kernel
theorem dX7_synopsis_1 : decode cX7_synopsis 1 = .ok (.iload_n 1, 1) := by decide +kernel
theorem dX7_synopsis_2 : decode cX7_synopsis 2 = .ok (.invokestatic 110, 3) := by decide +kernel
theorem dX7_synopsis_5 : decode cX7_synopsis 5 = .ok (.ifCond .eq 7, 3) := by decide +kernel
theorem dX7_synopsis_8 : decode cX7_synopsis 8 = .ok (.iconst 0, 1) := by decide +kernel
theorem dX7_synopsis_9 : decode cX7_synopsis 9 = .ok (.goto 4, 3) := by decide +kernel
theorem dX7_synopsis_12 : decode cX7_synopsis 12 = .ok (.iconst 1, 1) := by decide +kernel
theorem dX7_synopsis_13 : decode cX7_synopsis 13 = .ok (.invokevirtual 103, 3) := by decide +kernel
theorem dX7_synopsis_16 : decode cX7_synopsis 16 = .ok (.ifCond .ne 5, 3) := by decide +kernel
theorem dX7_synopsis_19 : decode cX7_synopsis 19 = .ok (.iconst 0, 1) := by decide +kernel
theorem dX7_synopsis_20 : decode cX7_synopsis 20 = .ok (.ireturn, 1) := by decide +kernel
theorem dX7_synopsis_21 : decode cX7_synopsis 21 = .ok (.iconst 0, 1) := by decide +kernel
theorem dX7_synopsis_22 : decode cX7_synopsis 22 = .ok (.istore_n 2, 1) := by decide +kernel
theorem dX7_synopsis_23 : decode cX7_synopsis 23 = .ok (.iconst 0, 1) := by decide +kernel
theorem dX7_synopsis_24 : decode cX7_synopsis 24 = .ok (.istore_n 3, 1) := by decide +kernel
theorem dX7_synopsis_25 : decode cX7_synopsis 25 = .ok (.iload_n 3, 1) := by decide +kernel
theorem dX7_synopsis_26 : decode cX7_synopsis 26 = .ok (.aload_n 0, 1) := by decide +kernel
theorem dX7_synopsis_27 : decode cX7_synopsis 27 = .ok (.getfield 78, 3) := by decide +kernel
theorem dX7_synopsis_30 : decode cX7_synopsis 30 = .ok (.if_icmp .ge 65, 3) := by decide +kernel
theorem dX7_synopsis_33 : decode cX7_synopsis 33 = .ok (.aload_n 0, 1) := by decide +kernel
theorem dX7_synopsis_34 : decode cX7_synopsis 34 = .ok (.getfield 16, 3) := by decide +kernel
theorem dX7_synopsis_37 : decode cX7_synopsis 37 = .ok (.iload_n 3, 1) := by decide +kernel
theorem dX7_synopsis_38 : decode cX7_synopsis 38 = .ok (.iaload, 1) := by decide +kernel
theorem dX7_synopsis_39 : decode cX7_synopsis 39 = .ok (.istore 4, 2) := by decide +kernel
theorem dX7_synopsis_41 : decode cX7_synopsis 41 = .ok (.iload 4, 2) := by decide +kernel
theorem dX7_synopsis_43 : decode cX7_synopsis 43 = .ok (.iconst (-1), 1) := by decide +kernel
theorem dX7_synopsis_44 : decode cX7_synopsis 44 = .ok (.if_icmp .eq 21, 3) := by decide +kernel
theorem dX7_synopsis_47 : decode cX7_synopsis 47 = .ok (.iload 4, 2) := by decide +kernel
theorem dX7_synopsis_49 : decode cX7_synopsis 49 = .ok (.iload_n 1, 1) := by decide +kernel
theorem dX7_synopsis_50 : decode cX7_synopsis 50 = .ok (.if_icmp .eq 15, 3) := by decide +kernel
theorem dX7_synopsis_53 : decode cX7_synopsis 53 = .ok (.aload_n 0, 1) := by decide +kernel
theorem dX7_synopsis_54 : decode cX7_synopsis 54 = .ok (.getfield 50, 3) := by decide +kernel
theorem dX7_synopsis_57 : decode cX7_synopsis 57 = .ok (.iload 4, 2) := by decide +kernel
theorem dX7_synopsis_59 : decode cX7_synopsis 59 = .ok (.iaload, 1) := by decide +kernel
theorem dX7_synopsis_60 : decode cX7_synopsis 60 = .ok (.istore 4, 2) := by decide +kernel
theorem dX7_synopsis_62 : decode cX7_synopsis 62 = .ok (.goto (-21), 3) := by decide +kernel
theorem dX7_synopsis_65 : decode cX7_synopsis 65 = .ok (.iload_n 2, 1) := by decide +kernel
theorem dX7_synopsis_66 : decode cX7_synopsis 66 = .ok (.aload_n 0, 1) := by decide +kernel
theorem dX7_synopsis_67 : decode cX7_synopsis 67 = .ok (.getfield 22, 3) := by decide +kernel
theorem dX7_synopsis_70 : decode cX7_synopsis 70 = .ok (.iload_n 3, 1) := by decide +kernel
theorem dX7_synopsis_71 : decode cX7_synopsis 71 = .ok (.iaload, 1) := by decide +kernel
theorem dX7_synopsis_72 : decode cX7_synopsis 72 = .ok (.iconst 3, 1) := by decide +kernel
theorem dX7_synopsis_73 : decode cX7_synopsis 73 = .ok (.if_icmp .ne 13, 3) := by decide +kernel
theorem dX7_synopsis_76 : decode cX7_synopsis 76 = .ok (.iload 4, 2) := by decide +kernel
theorem dX7_synopsis_78 : decode cX7_synopsis 78 = .ok (.iload_n 1, 1) := by decide +kernel
theorem dX7_synopsis_79 : decode cX7_synopsis 79 = .ok (.if_icmp .ne 7, 3) := by decide +kernel
theorem dX7_synopsis_82 : decode cX7_synopsis 82 = .ok (.iconst 1, 1) := by decide +kernel
theorem dX7_synopsis_83 : decode cX7_synopsis 83 = .ok (.goto 4, 3) := by decide +kernel
theorem dX7_synopsis_86 : decode cX7_synopsis 86 = .ok (.iconst 0, 1) := by decide +kernel
theorem dX7_synopsis_87 : decode cX7_synopsis 87 = .ok (.iadd, 1) := by decide +kernel
theorem dX7_synopsis_88 : decode cX7_synopsis 88 = .ok (.istore_n 2, 1) := by decide +kernel
theorem dX7_synopsis_89 : decode cX7_synopsis 89 = .ok (.iinc 3 1, 3) := by decide +kernel
theorem dX7_synopsis_92 : decode cX7_synopsis 92 = .ok (.goto (-67), 3) := by decide +kernel
theorem dX7_synopsis_95 : decode cX7_synopsis 95 = .ok (.iload_n 2, 1) := by decide +kernel
theorem dX7_synopsis_96 : decode cX7_synopsis 96 = .ok (.ireturn, 1) := by decide +kernel
