theorem dX6_open_45 : decode cX6_open 45 = .ok (.ireturn, 1) := by decide +kernel
theorem dX6_contradictions_0 : decode cX6_contradictions 0 = .ok (.iconst 0, 1) := by decide +kernel
theorem dX6_contradictions_1 : decode cX6_contradictions 1 = .ok (.istore_n 2, 1) := by decide +kernel
theorem dX6_contradictions_2 : decode cX6_contradictions 2 = .ok (.iconst 0, 1) := by decide +kernel
theorem dX6_contradictions_3 : decode cX6_contradictions 3 = .ok (.istore_n 3, 1) := by decide +kernel
theorem dX6_contradictions_4 : decode cX6_contradictions 4 = .ok (.iload_n 3, 1) := by decide +kernel
theorem dX6_contradictions_5 : decode cX6_contradictions 5 = .ok (.bipush 8, 2) := by decide +kernel
theorem dX6_contradictions_7 : decode cX6_contradictions 7 = .ok (.if_icmp .ge 21, 3) := by decide +kernel
theorem dX6_contradictions_10 : decode cX6_contradictions 10 = .ok (.aload_n 0, 1) := by decide +kernel
theorem dX6_contradictions_11 : decode cX6_contradictions 11 = .ok (.iload_n 3, 1) := by decide +kernel
theorem dX6_contradictions_12 : decode cX6_contradictions 12 = .ok (.iload_n 1, 1) := by decide +kernel
theorem dX6_contradictions_13 : decode cX6_contradictions 13 = .ok (.invokevirtual 287, 3) := by decide +kernel
theorem dX6_contradictions_16 : decode cX6_contradictions 16 = .ok (.ifCond .eq 6, 3) := by decide +kernel
theorem dX6_contradictions_19 : decode cX6_contradictions 19 = .ok (.iinc 2 1, 3) := by decide +kernel
theorem dX6_contradictions_22 : decode cX6_contradictions 22 = .ok (.iinc 3 1, 3) := by decide +kernel
theorem dX6_contradictions_25 : decode cX6_contradictions 25 = .ok (.goto (-21), 3) := by decide +kernel
theorem dX6_contradictions_28 : decode cX6_contradictions 28 = .ok (.iload_n 2, 1) := by decide +kernel
theorem dX6_contradictions_29 : decode cX6_contradictions 29 = .ok (.ireturn, 1) := by decide +kernel
theorem dX6_readAnew_0 : decode cX6_readAnew 0 = .ok (.bipush 100, 2) := by decide +kernel
theorem dX6_readAnew_2 : decode cX6_readAnew 2 = .ok (.aload_n 0, 1) := by decide +kernel
theorem dX6_readAnew_3 : decode cX6_readAnew 3 = .ok (.iload_n 1, 1) := by decide +kernel
theorem dX6_readAnew_4 : decode cX6_readAnew 4 = .ok (.invokevirtual 291, 3) := by decide +kernel
theorem dX6_readAnew_7 : decode cX6_readAnew 7 = .ok (.imul, 1) := by decide +kernel
theorem dX6_readAnew_8 : decode cX6_readAnew 8 = .ok (.aload_n 0, 1) := by decide +kernel
theorem dX6_readAnew_9 : decode cX6_readAnew 9 = .ok (.iload_n 1, 1) := by decide +kernel
theorem dX6_readAnew_10 : decode cX6_readAnew 10 = .ok (.invokevirtual 295, 3) := by decide +kernel
theorem dX6_readAnew_13 : decode cX6_readAnew 13 = .ok (.iadd, 1) := by decide +kernel
theorem dX6_readAnew_14 : decode cX6_readAnew 14 = .ok (.ireturn, 1) := by decide +kernel
theorem dX6_synopsis_0 : decode cX6_synopsis 0 = .ok (.iload_n 1, 1) := by decide +kernel
theorem dX6_synopsis_1 : decode cX6_synopsis 1 = .ok (.invokestatic 83, 3) := by decide +kernel
theorem dX6_synopsis_4 : decode cX6_synopsis 4 = .ok (.iconst 0, 1) := by decide +kernel
theorem dX6_synopsis_5 : decode cX6_synopsis 5 = .ok (.istore_n 2, 1) := by decide +kernel
theorem dX6_synopsis_6 : decode cX6_synopsis 6 = .ok (.iconst 0, 1) := by decide +kernel
theorem dX6_synopsis_7 : decode cX6_synopsis 7 = .ok (.istore_n 3, 1) := by decide +kernel
theorem dX6_synopsis_8 : decode cX6_synopsis 8 = .ok (.iload_n 3, 1) := by decide +kernel
theorem dX6_synopsis_9 : decode cX6_synopsis 9 = .ok (.aload_n 0, 1) := by decide +kernel
theorem dX6_synopsis_10 : decode cX6_synopsis 10 = .ok (.getfield 89, 3) := by decide +kernel
theorem dX6_synopsis_13 : decode cX6_synopsis 13 = .ok (.if_icmp .ge 41, 3) := by decide +kernel
theorem dX6_synopsis_16 : decode cX6_synopsis 16 = .ok (.aload_n 0, 1) := by decide +kernel
theorem dX6_synopsis_17 : decode cX6_synopsis 17 = .ok (.getfield 18, 3) := by decide +kernel
theorem dX6_synopsis_20 : decode cX6_synopsis 20 = .ok (.iload_n 3, 1) := by decide +kernel
theorem dX6_synopsis_21 : decode cX6_synopsis 21 = .ok (.aaload, 1) := by decide +kernel
theorem dX6_synopsis_22 : decode cX6_synopsis 22 = .ok (.getfield 116, 3) := by decide +kernel
theorem dX6_synopsis_25 : decode cX6_synopsis 25 = .ok (.ifCond .eq 23, 3) := by decide +kernel
theorem dX6_synopsis_28 : decode cX6_synopsis 28 = .ok (.aload_n 0, 1) := by decide +kernel
theorem dX6_synopsis_29 : decode cX6_synopsis 29 = .ok (.aload_n 0, 1) := by decide +kernel
theorem dX6_synopsis_30 : decode cX6_synopsis 30 = .ok (.getfield 18, 3) := by decide +kernel
theorem dX6_synopsis_33 : decode cX6_synopsis 33 = .ok (.iload_n 3, 1) := by decide +kernel
theorem dX6_synopsis_34 : decode cX6_synopsis 34 = .ok (.aaload, 1) := by decide +kernel
theorem dX6_synopsis_35 : decode cX6_synopsis 35 = .ok (.getfield 98, 3) := by decide +kernel
theorem dX6_synopsis_38 : decode cX6_synopsis 38 = .ok (.iload_n 1, 1) := by decide +kernel
theorem dX6_synopsis_39 : decode cX6_synopsis 39 = .ok (.invokevirtual 298, 3) := by decide +kernel
theorem dX6_synopsis_42 : decode cX6_synopsis 42 = .ok (.ifCond .eq 6, 3) := by decide +kernel
theorem dX6_synopsis_45 : decode cX6_synopsis 45 = .ok (.iinc 2 1, 3) := by decide +kernel
theorem dX6_synopsis_48 : decode cX6_synopsis 48 = .ok (.iinc 3 1, 3) := by decide +kernel
theorem dX6_synopsis_51 : decode cX6_synopsis 51 = .ok (.goto (-43), 3) := by decide +kernel
theorem dX6_synopsis_54 : decode cX6_synopsis 54 = .ok (.iload_n 2, 1) := by decide +kernel
theorem dX6_synopsis_55 : decode cX6_synopsis 55 = .ok (.ireturn, 1) := by decide +kernel
theorem dX6_requireArticle_0 : decode cX6_requireArticle 0 = .ok (.iload_n 1, 1) := by decide +kernel
theorem dX6_requireArticle_1 : decode cX6_requireArticle 1 = .ok (.ifCond .lt 11, 3) := by decide +kernel
theorem dX6_requireArticle_4 : decode cX6_requireArticle 4 = .ok (.iload_n 1, 1) := by decide +kernel
theorem dX6_requireArticle_5 : decode cX6_requireArticle 5 = .ok (.aload_n 0, 1) := by decide +kernel
theorem dX6_requireArticle_6 : decode cX6_requireArticle 6 = .ok (.getfield 89, 3) := by decide +kernel
theorem dX6_requireArticle_9 : decode cX6_requireArticle 9 = .ok (.if_icmp .lt 14, 3) := by decide +kernel
theorem dX6_requireArticle_12 : decode cX6_requireArticle 12 = .ok (.new 246, 3) := by decide +kernel
theorem dX6_requireArticle_15 : decode cX6_requireArticle 15 = .ok (.dup, 1) := by decide +kernel
theorem dX6_requireArticle_16 : decode cX6_requireArticle 16 = .ok (.ldc_w 302, 3) := by decide +kernel
theorem dX6_requireArticle_19 : decode cX6_requireArticle 19 = .ok (.invokespecial 250, 3) := by decide +kernel
theorem dX6_requireArticle_22 : decode cX6_requireArticle 22 = .ok (.athrow, 1) := by decide +kernel
theorem dX6_requireArticle_23 : decode cX6_requireArticle 23 = .ok (.return_, 1) := by decide +kernel
theorem dX6_requireVolume_0 : decode cX6_requireVolume 0 = .ok (.iload_n 1, 1) := by decide +kernel
theorem dX6_requireVolume_1 : decode cX6_requireVolume 1 = .ok (.ifCond .lt 11, 3) := by decide +kernel
theorem dX6_requireVolume_4 : decode cX6_requireVolume 4 = .ok (.iload_n 1, 1) := by decide +kernel
theorem dX6_requireVolume_5 : decode cX6_requireVolume 5 = .ok (.aload_n 0, 1) := by decide +kernel
theorem dX6_requireVolume_6 : decode cX6_requireVolume 6 = .ok (.getfield 150, 3) := by decide +kernel
theorem dX6_requireVolume_9 : decode cX6_requireVolume 9 = .ok (.if_icmp .lt 14, 3) := by decide +kernel
theorem dX6_requireVolume_12 : decode cX6_requireVolume 12 = .ok (.new 246, 3) := by decide +kernel
theorem dX6_requireVolume_15 : decode cX6_requireVolume 15 = .ok (.dup, 1) := by decide +kernel
theorem dX6_requireVolume_16 : decode cX6_requireVolume 16 = .ok (.ldc_w 304, 3) := by decide +kernel
theorem dX6_requireVolume_19 : decode cX6_requireVolume 19 = .ok (.invokespecial 250, 3) := by decide +kernel
theorem dX6_requireVolume_22 : decode cX6_requireVolume 22 = .ok (.athrow, 1) := by decide +kernel
theorem dX6_requireVolume_23 : decode cX6_requireVolume 23 = .ok (.return_, 1) := by decide +kernel
theorem dX6_requireContributor_0 : decode cX6_requireContributor 0 = .ok (.iload_n 1, 1) := by decide +kernel
theorem dX6_requireContributor_1 : decode cX6_requireContributor 1 = .ok (.ifCond .lt 11, 3) := by decide +kernel
theorem dX6_requireContributor_4 : decode cX6_requireContributor 4 = .ok (.iload_n 1, 1) := by decide +kernel
theorem dX6_requireContributor_5 : decode cX6_requireContributor 5 = .ok (.aload_n 0, 1) := by decide +kernel
theorem dX6_requireContributor_6 : decode cX6_requireContributor 6 = .ok (.getfield 166, 3) := by decide +kernel
theorem dX6_requireContributor_9 : decode cX6_requireContributor 9 = .ok (.if_icmp .lt 14, 3) := by decide +kernel
theorem dX6_requireContributor_12 : decode cX6_requireContributor 12 = .ok (.new 246, 3) := by decide +kernel
theorem dX6_requireContributor_15 : decode cX6_requireContributor 15 = .ok (.dup, 1) := by decide +kernel
theorem dX6_requireContributor_16 : decode cX6_requireContributor 16 = .ok (.ldc_w 306, 3) := by decide +kernel
theorem dX6_requireContributor_19 : decode cX6_requireContributor 19 = .ok (.invokespecial 250, 3) := by decide +kernel
theorem dX6_requireContributor_22 : decode cX6_requireContributor 22 = .ok (.athrow, 1) := by decide +kernel
theorem dX6_requireContributor_23 : decode cX6_requireContributor 23 = .ok (.return_, 1) := by decide +kernel
theorem dX6_requireSubject_0 : decode cX6_requireSubject 0 = .ok (.iload_n 0, 1) := by decide +kernel
theorem dX6_requireSubject_1 : decode cX6_requireSubject 1 = .ok (.ifCond .lt 9, 3) := by decide +kernel
theorem dX6_requireSubject_4 : decode cX6_requireSubject 4 = .ok (.iload_n 0, 1) := by decide +kernel
theorem dX6_requireSubject_5 : decode cX6_requireSubject 5 = .ok (.bipush 10, 2) := by decide +kernel
theorem dX6_requireSubject_7 : decode cX6_requireSubject 7 = .ok (.if_icmp .lt 14, 3) := by decide +kernel
theorem dX6_requireSubject_10 : decode cX6_requireSubject 10 = .ok (.new 246, 3) := by decide +kernel
theorem dX6_requireSubject_13 : decode cX6_requireSubject 13 = .ok (.dup, 1) := by decide +kernel
theorem dX6_requireSubject_14 : decode cX6_requireSubject 14 = .ok (.ldc_w 308, 3) := by decide +kernel
theorem dX6_requireSubject_17 : decode cX6_requireSubject 17 = .ok (.invokespecial 250, 3) := by decide +kernel
theorem dX6_requireSubject_20 : decode cX6_requireSubject 20 = .ok (.athrow, 1) := by decide +kernel
theorem dX6_requireSubject_21 : decode cX6_requireSubject 21 = .ok (.return_, 1) := by decide +kernel
theorem dX6_requireFact_0 : decode cX6_requireFact 0 = .ok (.iload_n 0, 1) := by decide +kernel
theorem dX6_requireFact_1 : decode cX6_requireFact 1 = .ok (.ifCond .lt 9, 3) := by decide +kernel
theorem dX6_requireFact_4 : decode cX6_requireFact 4 = .ok (.iload_n 0, 1) := by decide +kernel
theorem dX6_requireFact_5 : decode cX6_requireFact 5 = .ok (.bipush 8, 2) := by decide +kernel
theorem dX6_requireFact_7 : decode cX6_requireFact 7 = .ok (.if_icmp .lt 14, 3) := by decide +kernel
theorem dX6_requireFact_10 : decode cX6_requireFact 10 = .ok (.new 246, 3) := by decide +kernel
theorem dX6_requireFact_13 : decode cX6_requireFact 13 = .ok (.dup, 1) := by decide +kernel
theorem dX6_requireFact_14 : decode cX6_requireFact 14 = .ok (.ldc_w 310, 3) := by decide +kernel
theorem dX6_requireFact_17 : decode cX6_requireFact 17 = .ok (.invokespecial 250, 3) := by decide +kernel
theorem dX6_requireFact_20 : decode cX6_requireFact 20 = .ok (.athrow, 1) := by decide +kernel
theorem dX6_requireFact_21 : decode cX6_requireFact 21 = .ok (.return_, 1) := by decide +kernel
theorem dX6_isLetter_0 : decode cX6_isLetter 0 = .ok (.iload_n 0, 1) := by decide +kernel
theorem dX6_isLetter_1 : decode cX6_isLetter 1 = .ok (.bipush 97, 2) := by decide +kernel
theorem dX6_isLetter_3 : decode cX6_isLetter 3 = .ok (.if_icmp .lt 13, 3) := by decide +kernel
theorem dX6_isLetter_6 : decode cX6_isLetter 6 = .ok (.iload_n 0, 1) := by decide +kernel
theorem dX6_isLetter_7 : decode cX6_isLetter 7 = .ok (.bipush 122, 2) := by decide +kernel
theorem dX6_isLetter_9 : decode cX6_isLetter 9 = .ok (.if_icmp .gt 7, 3) := by decide +kernel
theorem dX6_isLetter_12 : decode cX6_isLetter 12 = .ok (.iconst 1, 1) := by decide +kernel
theorem dX6_isLetter_13 : decode cX6_isLetter 13 = .ok (.goto 4, 3) := by decide +kernel
theorem dX6_isLetter_16 : decode cX6_isLetter 16 = .ok (.iconst 0, 1) := by decide +kernel
theorem dX6_isLetter_17 : decode cX6_isLetter 17 = .ok (.ireturn, 1) := by decide +kernel
theorem dX6_isGap_0 : decode cX6_isGap 0 = .ok (.iload_n 0, 1) := by decide +kernel
theorem dX6_isGap_1 : decode cX6_isGap 1 = .ok (.bipush 32, 2) := by decide +kernel
theorem dX6_isGap_3 : decode cX6_isGap 3 = .ok (.if_icmp .eq 9, 3) := by decide +kernel
theorem dX6_isGap_6 : decode cX6_isGap 6 = .ok (.iload_n 0, 1) := by decide +kernel
theorem dX6_isGap_7 : decode cX6_isGap 7 = .ok (.bipush 45, 2) := by decide +kernel
theorem dX6_isGap_9 : decode cX6_isGap 9 = .ok (.if_icmp .ne 7, 3) := by decide +kernel
theorem dX6_isGap_12 : decode cX6_isGap 12 = .ok (.iconst 1, 1) := by decide +kernel
theorem dX6_isGap_13 : decode cX6_isGap 13 = .ok (.goto 4, 3) := by decide +kernel
theorem dX6_isGap_16 : decode cX6_isGap 16 = .ok (.iconst 0, 1) := by decide +kernel
theorem dX6_isGap_17 : decode cX6_isGap 17 = .ok (.ireturn, 1) := by decide +kernel
theorem dX6_areAlike_0 : decode cX6_areAlike 0 = .ok (.aload_n 1, 1) := by decide +kernel
theorem dX6_areAlike_1 : decode cX6_areAlike 1 = .ok (.aload_n 0, 1) := by decide +kernel
theorem dX6_areAlike_2 : decode cX6_areAlike 2 = .ok (.getfield 79, 3) := by decide +kernel
theorem dX6_areAlike_5 : decode cX6_areAlike 5 = .ok (.aload_n 2, 1) := by decide +kernel
theorem dX6_areAlike_6 : decode cX6_areAlike 6 = .ok (.invokevirtual 312, 3) := by decide +kernel
theorem dX6_areAlike_9 : decode cX6_areAlike 9 = .ok (.ifCond .ne 7, 3) := by decide +kernel
theorem dX6_areAlike_12 : decode cX6_areAlike 12 = .ok (.iconst 1, 1) := by decide +kernel
theorem dX6_areAlike_13 : decode cX6_areAlike 13 = .ok (.goto 4, 3) := by decide +kernel
theorem dX6_areAlike_16 : decode cX6_areAlike 16 = .ok (.iconst 0, 1) := by decide +kernel
theorem dX6_areAlike_17 : decode cX6_areAlike 17 = .ok (.ireturn, 1) := by decide +kernel
theorem dX6_comesAhead_0 : decode cX6_comesAhead 0 = .ok (.aload_n 0, 1) := by decide +kernel
theorem dX6_comesAhead_1 : decode cX6_comesAhead 1 = .ok (.getfield 18, 3) := by decide +kernel
theorem dX6_comesAhead_4 : decode cX6_comesAhead 4 = .ok (.iload_n 1, 1) := by decide +kernel
theorem dX6_comesAhead_5 : decode cX6_comesAhead 5 = .ok (.aaload, 1) := by decide +kernel
theorem dX6_comesAhead_6 : decode cX6_comesAhead 6 = .ok (.getfield 104, 3) := by decide +kernel
theorem dX6_comesAhead_9 : decode cX6_comesAhead 9 = .ok (.aload_n 0, 1) := by decide +kernel
theorem dX6_comesAhead_10 : decode cX6_comesAhead 10 = .ok (.getfield 79, 3) := by decide +kernel
theorem dX6_comesAhead_13 : decode cX6_comesAhead 13 = .ok (.aload_n 0, 1) := by decide +kernel
theorem dX6_comesAhead_14 : decode cX6_comesAhead 14 = .ok (.getfield 18, 3) := by decide +kernel
theorem dX6_comesAhead_17 : decode cX6_comesAhead 17 = .ok (.iload_n 2, 1) := by decide +kernel
theorem dX6_comesAhead_18 : decode cX6_comesAhead 18 = .ok (.aaload, 1) := by decide +kernel
theorem dX6_comesAhead_19 : decode cX6_comesAhead 19 = .ok (.getfield 104, 3) := by decide +kernel
theorem dX6_comesAhead_22 : decode cX6_comesAhead 22 = .ok (.invokevirtual 312, 3) := by decide +kernel
theorem dX6_comesAhead_25 : decode cX6_comesAhead 25 = .ok (.istore_n 3, 1) := by decide +kernel
theorem dX6_comesAhead_26 : decode cX6_comesAhead 26 = .ok (.iload_n 3, 1) := by decide +kernel
theorem dX6_comesAhead_27 : decode cX6_comesAhead 27 = .ok (.ifCond .lt 12, 3) := by decide +kernel
theorem dX6_comesAhead_30 : decode cX6_comesAhead 30 = .ok (.iload_n 3, 1) := by decide +kernel
theorem dX6_comesAhead_31 : decode cX6_comesAhead 31 = .ok (.ifCond .ne 12, 3) := by decide +kernel
theorem dX6_comesAhead_34 : decode cX6_comesAhead 34 = .ok (.iload_n 1, 1) := by decide +kernel
theorem dX6_comesAhead_35 : decode cX6_comesAhead 35 = .ok (.iload_n 2, 1) := by decide +kernel
theorem dX6_comesAhead_36 : decode cX6_comesAhead 36 = .ok (.if_icmp .ge 7, 3) := by decide +kernel
theorem dX6_comesAhead_39 : decode cX6_comesAhead 39 = .ok (.iconst 1, 1) := by decide +kernel
theorem dX6_comesAhead_40 : decode cX6_comesAhead 40 = .ok (.goto 4, 3) := by decide +kernel
theorem dX6_comesAhead_43 : decode cX6_comesAhead 43 = .ok (.iconst 0, 1) := by decide +kernel
theorem dX6_comesAhead_44 : decode cX6_comesAhead 44 = .ok (.ireturn, 1) := by decide +kernel
theorem dX6_placeOf_0 : decode cX6_placeOf 0 = .ok (.iconst 0, 1) := by decide +kernel
theorem dX6_placeOf_1 : decode cX6_placeOf 1 = .ok (.istore_n 2, 1) := by decide +kernel
theorem dX6_placeOf_2 : decode cX6_placeOf 2 = .ok (.iconst 0, 1) := by decide +kernel
theorem dX6_placeOf_3 : decode cX6_placeOf 3 = .ok (.istore_n 3, 1) := by decide +kernel
theorem dX6_placeOf_4 : decode cX6_placeOf 4 = .ok (.iload_n 3, 1) := by decide +kernel
theorem dX6_placeOf_5 : decode cX6_placeOf 5 = .ok (.aload_n 0, 1) := by decide +kernel
theorem dX6_placeOf_6 : decode cX6_placeOf 6 = .ok (.getfield 89, 3) := by decide +kernel
theorem dX6_placeOf_9 : decode cX6_placeOf 9 = .ok (.if_icmp .ge 21, 3) := by decide +kernel
theorem dX6_placeOf_12 : decode cX6_placeOf 12 = .ok (.aload_n 0, 1) := by decide +kernel
theorem dX6_placeOf_13 : decode cX6_placeOf 13 = .ok (.iload_n 3, 1) := by decide +kernel
theorem dX6_placeOf_14 : decode cX6_placeOf 14 = .ok (.iload_n 1, 1) := by decide +kernel
theorem dX6_placeOf_15 : decode cX6_placeOf 15 = .ok (.invokevirtual 316, 3) := by decide +kernel
theorem dX6_placeOf_18 : decode cX6_placeOf 18 = .ok (.ifCond .eq 6, 3) := by decide +kernel
theorem dX6_placeOf_21 : decode cX6_placeOf 21 = .ok (.iinc 2 1, 3) := by decide +kernel
theorem dX6_placeOf_24 : decode cX6_placeOf 24 = .ok (.iinc 3 1, 3) := by decide +kernel
theorem dX6_placeOf_27 : decode cX6_placeOf 27 = .ok (.goto (-23), 3) := by decide +kernel
theorem dX6_placeOf_30 : decode cX6_placeOf 30 = .ok (.iload_n 2, 1) := by decide +kernel
theorem dX6_placeOf_31 : decode cX6_placeOf 31 = .ok (.ireturn, 1) := by decide +kernel
theorem dX6_volumeOf_0 : decode cX6_volumeOf 0 = .ok (.iconst 0, 1) := by decide +kernel
theorem dX6_volumeOf_1 : decode cX6_volumeOf 1 = .ok (.istore_n 2, 1) := by decide +kernel
theorem dX6_volumeOf_2 : decode cX6_volumeOf 2 = .ok (.iload_n 2, 1) := by decide +kernel
theorem dX6_volumeOf_3 : decode cX6_volumeOf 3 = .ok (.aload_n 0, 1) := by decide +kernel
theorem dX6_volumeOf_4 : decode cX6_volumeOf 4 = .ok (.getfield 150, 3) := by decide +kernel
theorem dX6_volumeOf_7 : decode cX6_volumeOf 7 = .ok (.if_icmp .ge 27, 3) := by decide +kernel
theorem dX6_volumeOf_10 : decode cX6_volumeOf 10 = .ok (.aload_n 0, 1) := by decide +kernel
theorem dX6_volumeOf_11 : decode cX6_volumeOf 11 = .ok (.getfield 24, 3) := by decide +kernel
theorem dX6_volumeOf_14 : decode cX6_volumeOf 14 = .ok (.iload_n 2, 1) := by decide +kernel
theorem dX6_volumeOf_15 : decode cX6_volumeOf 15 = .ok (.aaload, 1) := by decide +kernel
theorem dX6_volumeOf_16 : decode cX6_volumeOf 16 = .ok (.getfield 153, 3) := by decide +kernel
theorem dX6_volumeOf_19 : decode cX6_volumeOf 19 = .ok (.aload_n 1, 1) := by decide +kernel
theorem dX6_volumeOf_20 : decode cX6_volumeOf 20 = .ok (.invokevirtual 319, 3) := by decide +kernel
theorem dX6_volumeOf_23 : decode cX6_volumeOf 23 = .ok (.if_icmp .lt 5, 3) := by decide +kernel
theorem dX6_volumeOf_26 : decode cX6_volumeOf 26 = .ok (.iload_n 2, 1) := by decide +kernel
theorem dX6_volumeOf_27 : decode cX6_volumeOf 27 = .ok (.ireturn, 1) := by decide +kernel
theorem dX6_volumeOf_28 : decode cX6_volumeOf 28 = .ok (.iinc 2 1, 3) := by decide +kernel
theorem dX6_volumeOf_31 : decode cX6_volumeOf 31 = .ok (.goto (-29), 3) := by decide +kernel
theorem dX6_volumeOf_34 : decode cX6_volumeOf 34 = .ok (.iconst (-1), 1) := by decide +kernel
theorem dX6_volumeOf_35 : decode cX6_volumeOf 35 = .ok (.ireturn, 1) := by decide +kernel
theorem dX6_isOfPrintedVolume_0 : decode cX6_isOfPrintedVolume 0 = .ok (.aload_n 0, 1) := by decide +kernel
theorem dX6_isOfPrintedVolume_1 : decode cX6_isOfPrintedVolume 1 = .ok (.aload_n 1, 1) := by decide +kernel
theorem dX6_isOfPrintedVolume_2 : decode cX6_isOfPrintedVolume 2 = .ok (.invokevirtual 259, 3) := by decide +kernel
theorem dX6_isOfPrintedVolume_5 : decode cX6_isOfPrintedVolume 5 = .ok (.istore_n 2, 1) := by decide +kernel
theorem dX6_isOfPrintedVolume_6 : decode cX6_isOfPrintedVolume 6 = .ok (.iload_n 2, 1) := by decide +kernel
theorem dX6_isOfPrintedVolume_7 : decode cX6_isOfPrintedVolume 7 = .ok (.iconst (-1), 1) := by decide +kernel
theorem dX6_isOfPrintedVolume_8 : decode cX6_isOfPrintedVolume 8 = .ok (.if_icmp .eq 15, 3) := by decide +kernel
theorem dX6_isOfPrintedVolume_11 : decode cX6_isOfPrintedVolume 11 = .ok (.iload_n 2, 1) := by decide +kernel
theorem dX6_isOfPrintedVolume_12 : decode cX6_isOfPrintedVolume 12 = .ok (.aload_n 0, 1) := by decide +kernel
theorem dX6_isOfPrintedVolume_13 : decode cX6_isOfPrintedVolume 13 = .ok (.getfield 74, 3) := by decide +kernel
theorem dX6_isOfPrintedVolume_16 : decode cX6_isOfPrintedVolume 16 = .ok (.if_icmp .ge 7, 3) := by decide +kernel
theorem dX6_isOfPrintedVolume_19 : decode cX6_isOfPrintedVolume 19 = .ok (.iconst 1, 1) := by decide +kernel
theorem dX6_isOfPrintedVolume_20 : decode cX6_isOfPrintedVolume 20 = .ok (.goto 4, 3) := by decide +kernel
theorem dX6_isOfPrintedVolume_23 : decode cX6_isOfPrintedVolume 23 = .ok (.iconst 0, 1) := by decide +kernel
theorem dX6_isOfPrintedVolume_24 : decode cX6_isOfPrintedVolume 24 = .ok (.ireturn, 1) := by decide +kernel
theorem dX6_columnsOf_0 : decode cX6_columnsOf 0 = .ok (.aload_n 0, 1) := by decide +kernel
theorem dX6_columnsOf_1 : decode cX6_columnsOf 1 = .ok (.aload_n 0, 1) := by decide +kernel
theorem dX6_columnsOf_2 : decode cX6_columnsOf 2 = .ok (.getfield 18, 3) := by decide +kernel
theorem dX6_columnsOf_5 : decode cX6_columnsOf 5 = .ok (.iload_n 1, 1) := by decide +kernel
theorem dX6_columnsOf_6 : decode cX6_columnsOf 6 = .ok (.aaload, 1) := by decide +kernel
theorem dX6_columnsOf_7 : decode cX6_columnsOf 7 = .ok (.getfield 104, 3) := by decide +kernel
theorem dX6_columnsOf_10 : decode cX6_columnsOf 10 = .ok (.invokevirtual 259, 3) := by decide +kernel
theorem dX6_columnsOf_13 : decode cX6_columnsOf 13 = .ok (.istore_n 2, 1) := by decide +kernel
theorem dX6_columnsOf_14 : decode cX6_columnsOf 14 = .ok (.iload_n 2, 1) := by decide +kernel
theorem dX6_columnsOf_15 : decode cX6_columnsOf 15 = .ok (.iconst (-1), 1) := by decide +kernel
theorem dX6_columnsOf_16 : decode cX6_columnsOf 16 = .ok (.if_icmp .ne 5, 3) := by decide +kernel
theorem dX6_columnsOf_19 : decode cX6_columnsOf 19 = .ok (.iconst 0, 1) := by decide +kernel
theorem dX6_columnsOf_20 : decode cX6_columnsOf 20 = .ok (.ireturn, 1) := by decide +kernel
theorem dX6_columnsOf_21 : decode cX6_columnsOf 21 = .ok (.aload_n 0, 1) := by decide +kernel
theorem dX6_columnsOf_22 : decode cX6_columnsOf 22 = .ok (.iload_n 2, 1) := by decide +kernel
theorem dX6_columnsOf_23 : decode cX6_columnsOf 23 = .ok (.invokevirtual 323, 3) := by decide +kernel
theorem dX6_columnsOf_26 : decode cX6_columnsOf 26 = .ok (.istore_n 3, 1) := by decide +kernel
theorem dX6_columnsOf_27 : decode cX6_columnsOf 27 = .ok (.iload_n 3, 1) := by decide +kernel
theorem dX6_columnsOf_28 : decode cX6_columnsOf 28 = .ok (.ifCond .ne 5, 3) := by decide +kernel
theorem dX6_columnsOf_31 : decode cX6_columnsOf 31 = .ok (.iconst 0, 1) := by decide +kernel
theorem dX6_columnsOf_32 : decode cX6_columnsOf 32 = .ok (.ireturn, 1) := by decide +kernel
theorem dX6_columnsOf_33 : decode cX6_columnsOf 33 = .ok (.aload_n 0, 1) := by decide +kernel
theorem dX6_columnsOf_34 : decode cX6_columnsOf 34 = .ok (.getfield 24, 3) := by decide +kernel
theorem dX6_columnsOf_37 : decode cX6_columnsOf 37 = .ok (.iload_n 2, 1) := by decide +kernel
theorem dX6_columnsOf_38 : decode cX6_columnsOf 38 = .ok (.aaload, 1) := by decide +kernel
theorem dX6_columnsOf_39 : decode cX6_columnsOf 39 = .ok (.getfield 161, 3) := by decide +kernel
theorem dX6_columnsOf_42 : decode cX6_columnsOf 42 = .ok (.istore 4, 2) := by decide +kernel
theorem dX6_columnsOf_44 : decode cX6_columnsOf 44 = .ok (.iload 4, 2) := by decide +kernel
theorem dX6_columnsOf_46 : decode cX6_columnsOf 46 = .ok (.aload_n 0, 1) := by decide +kernel
theorem dX6_columnsOf_47 : decode cX6_columnsOf 47 = .ok (.getfield 18, 3) := by decide +kernel
theorem dX6_columnsOf_50 : decode cX6_columnsOf 50 = .ok (.iload_n 1, 1) := by decide +kernel
theorem dX6_columnsOf_51 : decode cX6_columnsOf 51 = .ok (.aaload, 1) := by decide +kernel
theorem dX6_columnsOf_52 : decode cX6_columnsOf 52 = .ok (.getfield 101, 3) := by decide +kernel
theorem dX6_columnsOf_55 : decode cX6_columnsOf 55 = .ok (.imul, 1) := by decide +kernel
theorem dX6_columnsOf_56 : decode cX6_columnsOf 56 = .ok (.istore 5, 2) := by decide +kernel
theorem dX6_columnsOf_58 : decode cX6_columnsOf 58 = .ok (.iload 4, 2) := by decide +kernel
theorem dX6_columnsOf_60 : decode cX6_columnsOf 60 = .ok (.istore 6, 2) := by decide +kernel
theorem dX6_columnsOf_62 : decode cX6_columnsOf 62 = .ok (.iconst 0, 1) := by decide +kernel
theorem dX6_columnsOf_63 : decode cX6_columnsOf 63 = .ok (.istore 7, 2) := by decide +kernel
theorem dX6_columnsOf_65 : decode cX6_columnsOf 65 = .ok (.iconst 0, 1) := by decide +kernel
theorem dX6_columnsOf_66 : decode cX6_columnsOf 66 = .ok (.istore 8, 2) := by decide +kernel
theorem dX6_columnsOf_68 : decode cX6_columnsOf 68 = .ok (.iload 8, 2) := by decide +kernel
theorem dX6_columnsOf_70 : decode cX6_columnsOf 70 = .ok (.aload_n 0, 1) := by decide +kernel
theorem dX6_columnsOf_71 : decode cX6_columnsOf 71 = .ok (.getfield 89, 3) := by decide +kernel
theorem dX6_columnsOf_74 : decode cX6_columnsOf 74 = .ok (.if_icmp .ge 85, 3) := by decide +kernel
theorem dX6_columnsOf_77 : decode cX6_columnsOf 77 = .ok (.aload_n 0, 1) := by decide +kernel
theorem dX6_columnsOf_78 : decode cX6_columnsOf 78 = .ok (.aload_n 0, 1) := by decide +kernel
theorem dX6_columnsOf_79 : decode cX6_columnsOf 79 = .ok (.getfield 18, 3) := by decide +kernel
theorem dX6_columnsOf_82 : decode cX6_columnsOf 82 = .ok (.iload 8, 2) := by decide +kernel
theorem dX6_columnsOf_84 : decode cX6_columnsOf 84 = .ok (.aaload, 1) := by decide +kernel
theorem dX6_columnsOf_85 : decode cX6_columnsOf 85 = .ok (.getfield 104, 3) := by decide +kernel
theorem dX6_columnsOf_88 : decode cX6_columnsOf 88 = .ok (.invokevirtual 259, 3) := by decide +kernel
theorem dX6_columnsOf_91 : decode cX6_columnsOf 91 = .ok (.iload_n 2, 1) := by decide +kernel
theorem dX6_columnsOf_92 : decode cX6_columnsOf 92 = .ok (.if_icmp .ne 61, 3) := by decide +kernel
theorem dX6_columnsOf_95 : decode cX6_columnsOf 95 = .ok (.iload 4, 2) := by decide +kernel
theorem dX6_columnsOf_97 : decode cX6_columnsOf 97 = .ok (.aload_n 0, 1) := by decide +kernel
theorem dX6_columnsOf_98 : decode cX6_columnsOf 98 = .ok (.getfield 18, 3) := by decide +kernel
theorem dX6_columnsOf_101 : decode cX6_columnsOf 101 = .ok (.iload 8, 2) := by decide +kernel
theorem dX6_columnsOf_103 : decode cX6_columnsOf 103 = .ok (.aaload, 1) := by decide +kernel
theorem dX6_columnsOf_104 : decode cX6_columnsOf 104 = .ok (.getfield 101, 3) := by decide +kernel
theorem dX6_columnsOf_107 : decode cX6_columnsOf 107 = .ok (.imul, 1) := by decide +kernel
theorem dX6_columnsOf_108 : decode cX6_columnsOf 108 = .ok (.istore 9, 2) := by decide +kernel
theorem dX6_columnsOf_110 : decode cX6_columnsOf 110 = .ok (.iload 6, 2) := by decide +kernel
theorem dX6_columnsOf_112 : decode cX6_columnsOf 112 = .ok (.iload 9, 2) := by decide +kernel
theorem dX6_columnsOf_114 : decode cX6_columnsOf 114 = .ok (.iload_n 3, 1) := by decide +kernel
theorem dX6_columnsOf_115 : decode cX6_columnsOf 115 = .ok (.idiv, 1) := by decide +kernel
theorem dX6_columnsOf_116 : decode cX6_columnsOf 116 = .ok (.isub, 1) := by decide +kernel
theorem dX6_columnsOf_117 : decode cX6_columnsOf 117 = .ok (.istore 6, 2) := by decide +kernel
theorem dX6_columnsOf_119 : decode cX6_columnsOf 119 = .ok (.iload 9, 2) := by decide +kernel
theorem dX6_columnsOf_121 : decode cX6_columnsOf 121 = .ok (.iload_n 3, 1) := by decide +kernel
theorem dX6_columnsOf_122 : decode cX6_columnsOf 122 = .ok (.irem, 1) := by decide +kernel
theorem dX6_columnsOf_123 : decode cX6_columnsOf 123 = .ok (.iload 5, 2) := by decide +kernel
theorem dX6_columnsOf_125 : decode cX6_columnsOf 125 = .ok (.iload_n 3, 1) := by decide +kernel
theorem dX6_columnsOf_126 : decode cX6_columnsOf 126 = .ok (.irem, 1) := by decide +kernel
theorem dX6_columnsOf_127 : decode cX6_columnsOf 127 = .ok (.isub, 1) := by decide +kernel
theorem dX6_columnsOf_128 : decode cX6_columnsOf 128 = .ok (.istore 10, 2) := by decide +kernel
theorem dX6_columnsOf_130 : decode cX6_columnsOf 130 = .ok (.iload 10, 2) := by decide +kernel
theorem dX6_columnsOf_132 : decode cX6_columnsOf 132 = .ok (.ifCond .gt 18, 3) := by decide +kernel
theorem dX6_columnsOf_135 : decode cX6_columnsOf 135 = .ok (.iload 10, 2) := by decide +kernel
theorem dX6_columnsOf_137 : decode cX6_columnsOf 137 = .ok (.ifCond .ne 16, 3) := by decide +kernel
theorem dX6_columnsOf_140 : decode cX6_columnsOf 140 = .ok (.aload_n 0, 1) := by decide +kernel
theorem dX6_columnsOf_141 : decode cX6_columnsOf 141 = .ok (.iload 8, 2) := by decide +kernel
theorem dX6_columnsOf_143 : decode cX6_columnsOf 143 = .ok (.iload_n 1, 1) := by decide +kernel
theorem dX6_columnsOf_144 : decode cX6_columnsOf 144 = .ok (.invokevirtual 316, 3) := by decide +kernel
theorem dX6_columnsOf_147 : decode cX6_columnsOf 147 = .ok (.ifCond .eq 6, 3) := by decide +kernel
theorem dX6_columnsOf_150 : decode cX6_columnsOf 150 = .ok (.iinc 7 1, 3) := by decide +kernel
theorem dX6_columnsOf_153 : decode cX6_columnsOf 153 = .ok (.iinc 8 1, 3) := by decide +kernel
theorem dX6_columnsOf_156 : decode cX6_columnsOf 156 = .ok (.goto (-88), 3) := by decide +kernel
theorem dX6_columnsOf_159 : decode cX6_columnsOf 159 = .ok (.iload 5, 2) := by decide +kernel
theorem dX6_columnsOf_161 : decode cX6_columnsOf 161 = .ok (.iload_n 3, 1) := by decide +kernel
theorem dX6_columnsOf_162 : decode cX6_columnsOf 162 = .ok (.idiv, 1) := by decide +kernel
theorem dX6_columnsOf_163 : decode cX6_columnsOf 163 = .ok (.iload 7, 2) := by decide +kernel
theorem dX6_columnsOf_165 : decode cX6_columnsOf 165 = .ok (.iload 6, 2) := by decide +kernel
theorem dX6_columnsOf_167 : decode cX6_columnsOf 167 = .ok (.if_icmp .ge 7, 3) := by decide +kernel
theorem dX6_columnsOf_170 : decode cX6_columnsOf 170 = .ok (.iconst 1, 1) := by decide +kernel
theorem dX6_columnsOf_171 : decode cX6_columnsOf 171 = .ok (.goto 4, 3) := by decide +kernel
theorem dX6_columnsOf_174 : decode cX6_columnsOf 174 = .ok (.iconst 0, 1) := by decide +kernel
theorem dX6_columnsOf_175 : decode cX6_columnsOf 175 = .ok (.iadd, 1) := by decide +kernel
theorem dX6_columnsOf_176 : decode cX6_columnsOf 176 = .ok (.ireturn, 1) := by decide +kernel
theorem dX6_worthsIn_0 : decode cX6_worthsIn 0 = .ok (.iconst 0, 1) := by decide +kernel
theorem dX6_worthsIn_1 : decode cX6_worthsIn 1 = .ok (.istore_n 2, 1) := by decide +kernel
theorem dX6_worthsIn_2 : decode cX6_worthsIn 2 = .ok (.iconst 0, 1) := by decide +kernel
theorem dX6_worthsIn_3 : decode cX6_worthsIn 3 = .ok (.istore_n 3, 1) := by decide +kernel
theorem dX6_worthsIn_4 : decode cX6_worthsIn 4 = .ok (.iload_n 3, 1) := by decide +kernel
theorem dX6_worthsIn_5 : decode cX6_worthsIn 5 = .ok (.aload_n 0, 1) := by decide +kernel
theorem dX6_worthsIn_6 : decode cX6_worthsIn 6 = .ok (.getfield 89, 3) := by decide +kernel
theorem dX6_worthsIn_9 : decode cX6_worthsIn 9 = .ok (.if_icmp .ge 38, 3) := by decide +kernel
theorem dX6_worthsIn_12 : decode cX6_worthsIn 12 = .ok (.aload_n 0, 1) := by decide +kernel
theorem dX6_worthsIn_13 : decode cX6_worthsIn 13 = .ok (.aload_n 0, 1) := by decide +kernel
theorem dX6_worthsIn_14 : decode cX6_worthsIn 14 = .ok (.getfield 18, 3) := by decide +kernel
theorem dX6_worthsIn_17 : decode cX6_worthsIn 17 = .ok (.iload_n 3, 1) := by decide +kernel
theorem dX6_worthsIn_18 : decode cX6_worthsIn 18 = .ok (.aaload, 1) := by decide +kernel
theorem dX6_worthsIn_19 : decode cX6_worthsIn 19 = .ok (.getfield 104, 3) := by decide +kernel
theorem dX6_worthsIn_22 : decode cX6_worthsIn 22 = .ok (.invokevirtual 259, 3) := by decide +kernel
theorem dX6_worthsIn_25 : decode cX6_worthsIn 25 = .ok (.iload_n 1, 1) := by decide +kernel
theorem dX6_worthsIn_26 : decode cX6_worthsIn 26 = .ok (.if_icmp .ne 15, 3) := by decide +kernel
theorem dX6_worthsIn_29 : decode cX6_worthsIn 29 = .ok (.iload_n 2, 1) := by decide +kernel
theorem dX6_worthsIn_30 : decode cX6_worthsIn 30 = .ok (.aload_n 0, 1) := by decide +kernel
theorem dX6_worthsIn_31 : decode cX6_worthsIn 31 = .ok (.getfield 18, 3) := by decide +kernel
theorem dX6_worthsIn_34 : decode cX6_worthsIn 34 = .ok (.iload_n 3, 1) := by decide +kernel
theorem dX6_worthsIn_35 : decode cX6_worthsIn 35 = .ok (.aaload, 1) := by decide +kernel
theorem dX6_worthsIn_36 : decode cX6_worthsIn 36 = .ok (.getfield 101, 3) := by decide +kernel
theorem dX6_worthsIn_39 : decode cX6_worthsIn 39 = .ok (.iadd, 1) := by decide +kernel
theorem dX6_worthsIn_40 : decode cX6_worthsIn 40 = .ok (.istore_n 2, 1) := by decide +kernel
theorem dX6_worthsIn_41 : decode cX6_worthsIn 41 = .ok (.iinc 3 1, 3) := by decide +kernel
theorem dX6_worthsIn_44 : decode cX6_worthsIn 44 = .ok (.goto (-40), 3) := by decide +kernel
theorem dX6_worthsIn_47 : decode cX6_worthsIn 47 = .ok (.iload_n 2, 1) := by decide +kernel
theorem dX6_worthsIn_48 : decode cX6_worthsIn 48 = .ok (.ireturn, 1) := by decide +kernel
theorem dX6_isToBeGiven_0 : decode cX6_isToBeGiven 0 = .ok (.aload_n 1, 1) := by decide +kernel
theorem dX6_isToBeGiven_1 : decode cX6_isToBeGiven 1 = .ok (.invokevirtual 134, 3) := by decide +kernel
theorem dX6_isToBeGiven_4 : decode cX6_isToBeGiven 4 = .ok (.ifCond .ne 38, 3) := by decide +kernel
theorem dX6_isToBeGiven_7 : decode cX6_isToBeGiven 7 = .ok (.aload_n 1, 1) := by decide +kernel
theorem dX6_isToBeGiven_8 : decode cX6_isToBeGiven 8 = .ok (.getfield 195, 3) := by decide +kernel
theorem dX6_isToBeGiven_11 : decode cX6_isToBeGiven 11 = .ok (.iconst (-1), 1) := by decide +kernel
theorem dX6_isToBeGiven_12 : decode cX6_isToBeGiven 12 = .ok (.if_icmp .ne 30, 3) := by decide +kernel
theorem dX6_isToBeGiven_15 : decode cX6_isToBeGiven 15 = .ok (.aload_n 0, 1) := by decide +kernel
theorem dX6_isToBeGiven_16 : decode cX6_isToBeGiven 16 = .ok (.aload_n 1, 1) := by decide +kernel
theorem dX6_isToBeGiven_17 : decode cX6_isToBeGiven 17 = .ok (.getfield 104, 3) := by decide +kernel
theorem dX6_isToBeGiven_20 : decode cX6_isToBeGiven 20 = .ok (.invokevirtual 259, 3) := by decide +kernel
theorem dX6_isToBeGiven_23 : decode cX6_isToBeGiven 23 = .ok (.iconst (-1), 1) := by decide +kernel
theorem dX6_isToBeGiven_24 : decode cX6_isToBeGiven 24 = .ok (.if_icmp .eq 18, 3) := by decide +kernel
theorem dX6_isToBeGiven_27 : decode cX6_isToBeGiven 27 = .ok (.aload_n 0, 1) := by decide +kernel
theorem dX6_isToBeGiven_28 : decode cX6_isToBeGiven 28 = .ok (.aload_n 1, 1) := by decide +kernel
theorem dX6_isToBeGiven_29 : decode cX6_isToBeGiven 29 = .ok (.getfield 104, 3) := by decide +kernel
theorem dX6_isToBeGiven_32 : decode cX6_isToBeGiven 32 = .ok (.invokevirtual 326, 3) := by decide +kernel
theorem dX6_isToBeGiven_35 : decode cX6_isToBeGiven 35 = .ok (.ifCond .ne 7, 3) := by decide +kernel
theorem dX6_isToBeGiven_38 : decode cX6_isToBeGiven 38 = .ok (.iconst 1, 1) := by decide +kernel
theorem dX6_isToBeGiven_39 : decode cX6_isToBeGiven 39 = .ok (.goto 4, 3) := by decide +kernel
theorem dX6_isToBeGiven_42 : decode cX6_isToBeGiven 42 = .ok (.iconst 0, 1) := by decide +kernel
theorem dX6_isToBeGiven_43 : decode cX6_isToBeGiven 43 = .ok (.ireturn, 1) := by decide +kernel
theorem dX6_isAmongEnemies_0 : decode cX6_isAmongEnemies 0 = .ok (.iconst 0, 1) := by decide +kernel
theorem dX6_isAmongEnemies_1 : decode cX6_isAmongEnemies 1 = .ok (.istore_n 3, 1) := by decide +kernel
theorem dX6_isAmongEnemies_2 : decode cX6_isAmongEnemies 2 = .ok (.iload_n 3, 1) := by decide +kernel
theorem dX6_isAmongEnemies_3 : decode cX6_isAmongEnemies 3 = .ok (.aload_n 0, 1) := by decide +kernel
theorem dX6_isAmongEnemies_4 : decode cX6_isAmongEnemies 4 = .ok (.getfield 89, 3) := by decide +kernel
theorem dX6_isAmongEnemies_7 : decode cX6_isAmongEnemies 7 = .ok (.if_icmp .ge 61, 3) := by decide +kernel
theorem dX6_isAmongEnemies_10 : decode cX6_isAmongEnemies 10 = .ok (.aload_n 0, 1) := by decide +kernel
theorem dX6_isAmongEnemies_11 : decode cX6_isAmongEnemies 11 = .ok (.getfield 18, 3) := by decide +kernel
theorem dX6_isAmongEnemies_14 : decode cX6_isAmongEnemies 14 = .ok (.iload_n 3, 1) := by decide +kernel
theorem dX6_isAmongEnemies_15 : decode cX6_isAmongEnemies 15 = .ok (.aaload, 1) := by decide +kernel
theorem dX6_isAmongEnemies_16 : decode cX6_isAmongEnemies 16 = .ok (.astore 4, 2) := by decide +kernel
theorem dX6_isAmongEnemies_18 : decode cX6_isAmongEnemies 18 = .ok (.aload 4, 2) := by decide +kernel
theorem dX6_isAmongEnemies_20 : decode cX6_isAmongEnemies 20 = .ok (.getfield 195, 3) := by decide +kernel
theorem dX6_isAmongEnemies_23 : decode cX6_isAmongEnemies 23 = .ok (.iconst (-1), 1) := by decide +kernel
theorem dX6_isAmongEnemies_24 : decode cX6_isAmongEnemies 24 = .ok (.if_icmp .eq 38, 3) := by decide +kernel
theorem dX6_isAmongEnemies_27 : decode cX6_isAmongEnemies 27 = .ok (.aload_n 2, 1) := by decide +kernel
theorem dX6_isAmongEnemies_28 : decode cX6_isAmongEnemies 28 = .ok (.getfield 179, 3) := by decide +kernel
theorem dX6_isAmongEnemies_31 : decode cX6_isAmongEnemies 31 = .ok (.aload 4, 2) := by decide +kernel
theorem dX6_isAmongEnemies_33 : decode cX6_isAmongEnemies 33 = .ok (.getfield 195, 3) := by decide +kernel
theorem dX6_isAmongEnemies_36 : decode cX6_isAmongEnemies 36 = .ok (.baload, 1) := by decide +kernel
theorem dX6_isAmongEnemies_37 : decode cX6_isAmongEnemies 37 = .ok (.ifCond .eq 25, 3) := by decide +kernel
theorem dX6_isAmongEnemies_40 : decode cX6_isAmongEnemies 40 = .ok (.aload_n 0, 1) := by decide +kernel
theorem dX6_isAmongEnemies_41 : decode cX6_isAmongEnemies 41 = .ok (.aload_n 1, 1) := by decide +kernel
theorem dX6_isAmongEnemies_42 : decode cX6_isAmongEnemies 42 = .ok (.aload 4, 2) := by decide +kernel
theorem dX6_isAmongEnemies_44 : decode cX6_isAmongEnemies 44 = .ok (.invokevirtual 330, 3) := by decide +kernel
theorem dX6_isAmongEnemies_47 : decode cX6_isAmongEnemies 47 = .ok (.ifCond .ne 13, 3) := by decide +kernel
theorem dX6_isAmongEnemies_50 : decode cX6_isAmongEnemies 50 = .ok (.aload_n 0, 1) := by decide +kernel
theorem dX6_isAmongEnemies_51 : decode cX6_isAmongEnemies 51 = .ok (.aload 4, 2) := by decide +kernel
theorem dX6_isAmongEnemies_53 : decode cX6_isAmongEnemies 53 = .ok (.aload_n 1, 1) := by decide +kernel
theorem dX6_isAmongEnemies_54 : decode cX6_isAmongEnemies 54 = .ok (.invokevirtual 330, 3) := by decide +kernel
theorem dX6_isAmongEnemies_57 : decode cX6_isAmongEnemies 57 = .ok (.ifCond .eq 5, 3) := by decide +kernel
theorem dX6_isAmongEnemies_60 : decode cX6_isAmongEnemies 60 = .ok (.iconst 1, 1) := by decide +kernel
theorem dX6_isAmongEnemies_61 : decode cX6_isAmongEnemies 61 = .ok (.ireturn, 1) := by decide +kernel
theorem dX6_isAmongEnemies_62 : decode cX6_isAmongEnemies 62 = .ok (.iinc 3 1, 3) := by decide +kernel
theorem dX6_isAmongEnemies_65 : decode cX6_isAmongEnemies 65 = .ok (.goto (-63), 3) := by decide +kernel
theorem dX6_isAmongEnemies_68 : decode cX6_isAmongEnemies 68 = .ok (.iconst 0, 1) := by decide +kernel
theorem dX6_isAmongEnemies_69 : decode cX6_isAmongEnemies 69 = .ok (.ireturn, 1) := by decide +kernel
theorem dX6_refersTo_0 : decode cX6_refersTo 0 = .ok (.iconst 0, 1) := by decide +kernel
theorem dX6_refersTo_1 : decode cX6_refersTo 1 = .ok (.istore_n 3, 1) := by decide +kernel
theorem dX6_refersTo_2 : decode cX6_refersTo 2 = .ok (.iload_n 3, 1) := by decide +kernel
theorem dX6_refersTo_3 : decode cX6_refersTo 3 = .ok (.aload_n 1, 1) := by decide +kernel
theorem dX6_refersTo_4 : decode cX6_refersTo 4 = .ok (.getfield 119, 3) := by decide +kernel
theorem dX6_refersTo_7 : decode cX6_refersTo 7 = .ok (.if_icmp .ge 31, 3) := by decide +kernel
theorem dX6_refersTo_10 : decode cX6_refersTo 10 = .ok (.aload_n 0, 1) := by decide +kernel
theorem dX6_refersTo_11 : decode cX6_refersTo 11 = .ok (.aload_n 1, 1) := by decide +kernel
theorem dX6_refersTo_12 : decode cX6_refersTo 12 = .ok (.getfield 124, 3) := by decide +kernel
theorem dX6_refersTo_15 : decode cX6_refersTo 15 = .ok (.iload_n 3, 1) := by decide +kernel
theorem dX6_refersTo_16 : decode cX6_refersTo 16 = .ok (.aaload, 1) := by decide +kernel
theorem dX6_refersTo_17 : decode cX6_refersTo 17 = .ok (.getfield 128, 3) := by decide +kernel
theorem dX6_refersTo_20 : decode cX6_refersTo 20 = .ok (.aload_n 2, 1) := by decide +kernel
theorem dX6_refersTo_21 : decode cX6_refersTo 21 = .ok (.getfield 104, 3) := by decide +kernel
theorem dX6_refersTo_24 : decode cX6_refersTo 24 = .ok (.invokevirtual 334, 3) := by decide +kernel
theorem dX6_refersTo_27 : decode cX6_refersTo 27 = .ok (.ifCond .eq 5, 3) := by decide +kernel
theorem dX6_refersTo_30 : decode cX6_refersTo 30 = .ok (.iconst 1, 1) := by decide +kernel
theorem dX6_refersTo_31 : decode cX6_refersTo 31 = .ok (.ireturn, 1) := by decide +kernel
theorem dX6_refersTo_32 : decode cX6_refersTo 32 = .ok (.iinc 3 1, 3) := by decide +kernel
theorem dX6_refersTo_35 : decode cX6_refersTo 35 = .ok (.goto (-33), 3) := by decide +kernel
theorem dX6_refersTo_38 : decode cX6_refersTo 38 = .ok (.iconst 0, 1) := by decide +kernel
theorem dX6_refersTo_39 : decode cX6_refersTo 39 = .ok (.ireturn, 1) := by decide +kernel
theorem dX6_beginFirst_0 : decode cX6_beginFirst 0 = .ok (.aload_n 1, 1) := by decide +kernel
theorem dX6_beginFirst_1 : decode cX6_beginFirst 1 = .ok (.getfield 201, 3) := by decide +kernel
theorem dX6_beginFirst_4 : decode cX6_beginFirst 4 = .ok (.ifCond .le 33, 3) := by decide +kernel
theorem dX6_beginFirst_7 : decode cX6_beginFirst 7 = .ok (.aload_n 1, 1) := by decide +kernel
theorem dX6_beginFirst_8 : decode cX6_beginFirst 8 = .ok (.getfield 210, 3) := by decide +kernel
theorem dX6_beginFirst_11 : decode cX6_beginFirst 11 = .ok (.iconst 0, 1) := by decide +kernel
theorem dX6_beginFirst_12 : decode cX6_beginFirst 12 = .ok (.iaload, 1) := by decide +kernel
theorem dX6_beginFirst_13 : decode cX6_beginFirst 13 = .ok (.istore_n 2, 1) := by decide +kernel
theorem dX6_beginFirst_14 : decode cX6_beginFirst 14 = .ok (.aload_n 0, 1) := by decide +kernel
theorem dX6_beginFirst_15 : decode cX6_beginFirst 15 = .ok (.getfield 18, 3) := by decide +kernel
theorem dX6_beginFirst_18 : decode cX6_beginFirst 18 = .ok (.iload_n 2, 1) := by decide +kernel
theorem dX6_beginFirst_19 : decode cX6_beginFirst 19 = .ok (.aaload, 1) := by decide +kernel
theorem dX6_beginFirst_20 : decode cX6_beginFirst 20 = .ok (.aload_n 0, 1) := by decide +kernel
theorem dX6_beginFirst_21 : decode cX6_beginFirst 21 = .ok (.getfield 218, 3) := by decide +kernel
theorem dX6_beginFirst_24 : decode cX6_beginFirst 24 = .ok (.aload_n 1, 1) := by decide +kernel
theorem dX6_beginFirst_25 : decode cX6_beginFirst 25 = .ok (.aload_n 0, 1) := by decide +kernel
theorem dX6_beginFirst_26 : decode cX6_beginFirst 26 = .ok (.iload_n 2, 1) := by decide +kernel
theorem dX6_beginFirst_27 : decode cX6_beginFirst 27 = .ok (.invokevirtual 263, 3) := by decide +kernel
theorem dX6_beginFirst_30 : decode cX6_beginFirst 30 = .ok (.invokevirtual 338, 3) := by decide +kernel
theorem dX6_beginFirst_33 : decode cX6_beginFirst 33 = .ok (.iadd, 1) := by decide +kernel
theorem dX6_beginFirst_34 : decode cX6_beginFirst 34 = .ok (.putfield 213, 3) := by decide +kernel
theorem dX6_beginFirst_37 : decode cX6_beginFirst 37 = .ok (.return_, 1) := by decide +kernel
theorem dX6_endsAnArticle_0 : decode cX6_endsAnArticle 0 = .ok (.aload_n 1, 1) := by decide +kernel
theorem dX6_endsAnArticle_1 : decode cX6_endsAnArticle 1 = .ok (.getfield 201, 3) := by decide +kernel
theorem dX6_endsAnArticle_4 : decode cX6_endsAnArticle 4 = .ok (.ifCond .ne 5, 3) := by decide +kernel
theorem dX6_endsAnArticle_7 : decode cX6_endsAnArticle 7 = .ok (.iconst 0, 1) := by decide +kernel
theorem dX6_endsAnArticle_8 : decode cX6_endsAnArticle 8 = .ok (.ireturn, 1) := by decide +kernel
theorem dX6_endsAnArticle_9 : decode cX6_endsAnArticle 9 = .ok (.aload_n 0, 1) := by decide +kernel
theorem dX6_endsAnArticle_10 : decode cX6_endsAnArticle 10 = .ok (.getfield 18, 3) := by decide +kernel
theorem dX6_endsAnArticle_13 : decode cX6_endsAnArticle 13 = .ok (.aload_n 1, 1) := by decide +kernel
theorem dX6_endsAnArticle_14 : decode cX6_endsAnArticle 14 = .ok (.getfield 210, 3) := by decide +kernel
theorem dX6_endsAnArticle_17 : decode cX6_endsAnArticle 17 = .ok (.iconst 0, 1) := by decide +kernel
theorem dX6_endsAnArticle_18 : decode cX6_endsAnArticle 18 = .ok (.iaload, 1) := by decide +kernel
theorem dX6_endsAnArticle_19 : decode cX6_endsAnArticle 19 = .ok (.aaload, 1) := by decide +kernel
theorem dX6_endsAnArticle_20 : decode cX6_endsAnArticle 20 = .ok (.astore_n 2, 1) := by decide +kernel
theorem dX6_endsAnArticle_21 : decode cX6_endsAnArticle 21 = .ok (.aload_n 2, 1) := by decide +kernel
theorem dX6_endsAnArticle_22 : decode cX6_endsAnArticle 22 = .ok (.getfield 213, 3) := by decide +kernel
theorem dX6_endsAnArticle_25 : decode cX6_endsAnArticle 25 = .ok (.aload_n 0, 1) := by decide +kernel
theorem dX6_endsAnArticle_26 : decode cX6_endsAnArticle 26 = .ok (.getfield 218, 3) := by decide +kernel
theorem dX6_endsAnArticle_29 : decode cX6_endsAnArticle 29 = .ok (.if_icmp .eq 5, 3) := by decide +kernel
theorem dX6_endsAnArticle_32 : decode cX6_endsAnArticle 32 = .ok (.iconst 0, 1) := by decide +kernel
theorem dX6_endsAnArticle_33 : decode cX6_endsAnArticle 33 = .ok (.ireturn, 1) := by decide +kernel
theorem dX6_endsAnArticle_34 : decode cX6_endsAnArticle 34 = .ok (.aload_n 2, 1) := by decide +kernel
theorem dX6_endsAnArticle_35 : decode cX6_endsAnArticle 35 = .ok (.iconst 1, 1) := by decide +kernel
theorem dX6_endsAnArticle_36 : decode cX6_endsAnArticle 36 = .ok (.putfield 341, 3) := by decide +kernel
theorem dX6_endsAnArticle_39 : decode cX6_endsAnArticle 39 = .ok (.aload_n 1, 1) := by decide +kernel
theorem dX6_endsAnArticle_40 : decode cX6_endsAnArticle 40 = .ok (.invokevirtual 344, 3) := by decide +kernel
theorem dX6_endsAnArticle_43 : decode cX6_endsAnArticle 43 = .ok (.aload_n 0, 1) := by decide +kernel
theorem dX6_endsAnArticle_44 : decode cX6_endsAnArticle 44 = .ok (.aload_n 1, 1) := by decide +kernel
theorem dX6_endsAnArticle_45 : decode cX6_endsAnArticle 45 = .ok (.invokevirtual 204, 3) := by decide +kernel
theorem dX6_endsAnArticle_48 : decode cX6_endsAnArticle 48 = .ok (.iconst 1, 1) := by decide +kernel
theorem dX6_endsAnArticle_49 : decode cX6_endsAnArticle 49 = .ok (.ireturn, 1) := by decide +kernel
theorem dX6_putToPressFrom_0 : decode cX6_putToPressFrom 0 = .ok (.iconst 0, 1) := by decide +kernel
theorem dX6_putToPressFrom_1 : decode cX6_putToPressFrom 1 = .ok (.istore_n 2, 1) := by decide +kernel
theorem dX6_putToPressFrom_2 : decode cX6_putToPressFrom 2 = .ok (.iconst 0, 1) := by decide +kernel
theorem dX6_putToPressFrom_3 : decode cX6_putToPressFrom 3 = .ok (.istore_n 3, 1) := by decide +kernel
theorem dX6_putToPressFrom_4 : decode cX6_putToPressFrom 4 = .ok (.iload_n 3, 1) := by decide +kernel
theorem dX6_putToPressFrom_5 : decode cX6_putToPressFrom 5 = .ok (.aload_n 0, 1) := by decide +kernel
theorem dX6_putToPressFrom_6 : decode cX6_putToPressFrom 6 = .ok (.getfield 89, 3) := by decide +kernel
theorem dX6_putToPressFrom_9 : decode cX6_putToPressFrom 9 = .ok (.if_icmp .ge 62, 3) := by decide +kernel
theorem dX6_putToPressFrom_12 : decode cX6_putToPressFrom 12 = .ok (.aload_n 0, 1) := by decide +kernel
theorem dX6_putToPressFrom_13 : decode cX6_putToPressFrom 13 = .ok (.getfield 18, 3) := by decide +kernel
theorem dX6_putToPressFrom_16 : decode cX6_putToPressFrom 16 = .ok (.iload_n 3, 1) := by decide +kernel
theorem dX6_putToPressFrom_17 : decode cX6_putToPressFrom 17 = .ok (.aaload, 1) := by decide +kernel
theorem dX6_putToPressFrom_18 : decode cX6_putToPressFrom 18 = .ok (.astore 4, 2) := by decide +kernel
theorem dX6_putToPressFrom_20 : decode cX6_putToPressFrom 20 = .ok (.aload 4, 2) := by decide +kernel
theorem dX6_putToPressFrom_22 : decode cX6_putToPressFrom 22 = .ok (.invokevirtual 347, 3) := by decide +kernel
theorem dX6_putToPressFrom_25 : decode cX6_putToPressFrom 25 = .ok (.ifCond .eq 40, 3) := by decide +kernel
theorem dX6_putToPressFrom_28 : decode cX6_putToPressFrom 28 = .ok (.aload_n 0, 1) := by decide +kernel
theorem dX6_putToPressFrom_29 : decode cX6_putToPressFrom 29 = .ok (.aload 4, 2) := by decide +kernel
theorem dX6_putToPressFrom_31 : decode cX6_putToPressFrom 31 = .ok (.getfield 104, 3) := by decide +kernel
theorem dX6_putToPressFrom_34 : decode cX6_putToPressFrom 34 = .ok (.invokevirtual 259, 3) := by decide +kernel
theorem dX6_putToPressFrom_37 : decode cX6_putToPressFrom 37 = .ok (.iload_n 1, 1) := by decide +kernel
theorem dX6_putToPressFrom_38 : decode cX6_putToPressFrom 38 = .ok (.if_icmp .lt 27, 3) := by decide +kernel
theorem dX6_putToPressFrom_41 : decode cX6_putToPressFrom 41 = .ok (.aload_n 0, 1) := by decide +kernel
theorem dX6_putToPressFrom_42 : decode cX6_putToPressFrom 42 = .ok (.aload 4, 2) := by decide +kernel
theorem dX6_putToPressFrom_44 : decode cX6_putToPressFrom 44 = .ok (.getfield 104, 3) := by decide +kernel
theorem dX6_putToPressFrom_47 : decode cX6_putToPressFrom 47 = .ok (.invokevirtual 326, 3) := by decide +kernel
theorem dX6_putToPressFrom_50 : decode cX6_putToPressFrom 50 = .ok (.ifCond .eq 15, 3) := by decide +kernel
theorem dX6_putToPressFrom_53 : decode cX6_putToPressFrom 53 = .ok (.aload 4, 2) := by decide +kernel
theorem dX6_putToPressFrom_55 : decode cX6_putToPressFrom 55 = .ok (.aload_n 0, 1) := by decide +kernel
theorem dX6_putToPressFrom_56 : decode cX6_putToPressFrom 56 = .ok (.getfield 38, 3) := by decide +kernel
theorem dX6_putToPressFrom_59 : decode cX6_putToPressFrom 59 = .ok (.invokevirtual 350, 3) := by decide +kernel
theorem dX6_putToPressFrom_62 : decode cX6_putToPressFrom 62 = .ok (.iinc 2 1, 3) := by decide +kernel
theorem dX6_putToPressFrom_65 : decode cX6_putToPressFrom 65 = .ok (.iinc 3 1, 3) := by decide +kernel
theorem dX6_putToPressFrom_68 : decode cX6_putToPressFrom 68 = .ok (.goto (-64), 3) := by decide +kernel
theorem dX6_putToPressFrom_71 : decode cX6_putToPressFrom 71 = .ok (.iload_n 2, 1) := by decide +kernel
theorem dX6_putToPressFrom_72 : decode cX6_putToPressFrom 72 = .ok (.ireturn, 1) := by decide +kernel
theorem dX6_lookAtReferences_0 : decode cX6_lookAtReferences 0 = .ok (.iconst 0, 1) := by decide +kernel
theorem dX6_lookAtReferences_1 : decode cX6_lookAtReferences 1 = .ok (.istore_n 1, 1) := by decide +kernel
theorem dX6_lookAtReferences_2 : decode cX6_lookAtReferences 2 = .ok (.iload_n 1, 1) := by decide +kernel
theorem dX6_lookAtReferences_3 : decode cX6_lookAtReferences 3 = .ok (.aload_n 0, 1) := by decide +kernel
theorem dX6_lookAtReferences_4 : decode cX6_lookAtReferences 4 = .ok (.getfield 89, 3) := by decide +kernel
theorem dX6_lookAtReferences_7 : decode cX6_lookAtReferences 7 = .ok (.if_icmp .ge 76, 3) := by decide +kernel
theorem dX6_lookAtReferences_10 : decode cX6_lookAtReferences 10 = .ok (.iconst 0, 1) := by decide +kernel
theorem dX6_lookAtReferences_11 : decode cX6_lookAtReferences 11 = .ok (.istore_n 2, 1) := by decide +kernel
theorem dX6_lookAtReferences_12 : decode cX6_lookAtReferences 12 = .ok (.aload_n 0, 1) := by decide +kernel
theorem dX6_lookAtReferences_13 : decode cX6_lookAtReferences 13 = .ok (.getfield 18, 3) := by decide +kernel
theorem dX6_lookAtReferences_16 : decode cX6_lookAtReferences 16 = .ok (.iload_n 1, 1) := by decide +kernel
theorem dX6_lookAtReferences_17 : decode cX6_lookAtReferences 17 = .ok (.aaload, 1) := by decide +kernel
theorem dX6_lookAtReferences_18 : decode cX6_lookAtReferences 18 = .ok (.getfield 116, 3) := by decide +kernel
theorem dX6_lookAtReferences_21 : decode cX6_lookAtReferences 21 = .ok (.ifCond .eq 56, 3) := by decide +kernel
theorem dX6_lookAtReferences_24 : decode cX6_lookAtReferences 24 = .ok (.iload_n 2, 1) := by decide +kernel
theorem dX6_lookAtReferences_25 : decode cX6_lookAtReferences 25 = .ok (.aload_n 0, 1) := by decide +kernel
theorem dX6_lookAtReferences_26 : decode cX6_lookAtReferences 26 = .ok (.getfield 18, 3) := by decide +kernel
theorem dX6_lookAtReferences_29 : decode cX6_lookAtReferences 29 = .ok (.iload_n 1, 1) := by decide +kernel
theorem dX6_lookAtReferences_30 : decode cX6_lookAtReferences 30 = .ok (.aaload, 1) := by decide +kernel
theorem dX6_lookAtReferences_31 : decode cX6_lookAtReferences 31 = .ok (.getfield 119, 3) := by decide +kernel
theorem dX6_lookAtReferences_34 : decode cX6_lookAtReferences 34 = .ok (.if_icmp .ge 43, 3) := by decide +kernel
theorem dX6_lookAtReferences_37 : decode cX6_lookAtReferences 37 = .ok (.aload_n 0, 1) := by decide +kernel
theorem dX6_lookAtReferences_38 : decode cX6_lookAtReferences 38 = .ok (.getfield 18, 3) := by decide +kernel
theorem dX6_lookAtReferences_41 : decode cX6_lookAtReferences 41 = .ok (.iload_n 1, 1) := by decide +kernel
theorem dX6_lookAtReferences_42 : decode cX6_lookAtReferences 42 = .ok (.aaload, 1) := by decide +kernel
theorem dX6_lookAtReferences_43 : decode cX6_lookAtReferences 43 = .ok (.getfield 124, 3) := by decide +kernel
theorem dX6_lookAtReferences_46 : decode cX6_lookAtReferences 46 = .ok (.iload_n 2, 1) := by decide +kernel
theorem dX6_lookAtReferences_47 : decode cX6_lookAtReferences 47 = .ok (.aaload, 1) := by decide +kernel
theorem dX6_lookAtReferences_48 : decode cX6_lookAtReferences 48 = .ok (.astore_n 3, 1) := by decide +kernel
theorem dX6_lookAtReferences_49 : decode cX6_lookAtReferences 49 = .ok (.aload_n 3, 1) := by decide +kernel
theorem dX6_lookAtReferences_50 : decode cX6_lookAtReferences 50 = .ok (.getfield 354, 3) := by decide +kernel
theorem dX6_lookAtReferences_53 : decode cX6_lookAtReferences 53 = .ok (.getstatic 357, 3) := by decide +kernel
theorem dX6_lookAtReferences_56 : decode cX6_lookAtReferences 56 = .ok (.if_acmp .ne 15, 3) := by decide +kernel
theorem dX6_lookAtReferences_59 : decode cX6_lookAtReferences 59 = .ok (.aload_n 3, 1) := by decide +kernel
theorem dX6_lookAtReferences_60 : decode cX6_lookAtReferences 60 = .ok (.aload_n 0, 1) := by decide +kernel
theorem dX6_lookAtReferences_61 : decode cX6_lookAtReferences 61 = .ok (.aload_n 3, 1) := by decide +kernel
theorem dX6_lookAtReferences_62 : decode cX6_lookAtReferences 62 = .ok (.getfield 128, 3) := by decide +kernel
theorem dX6_lookAtReferences_65 : decode cX6_lookAtReferences 65 = .ok (.invokevirtual 360, 3) := by decide +kernel
theorem dX6_lookAtReferences_68 : decode cX6_lookAtReferences 68 = .ok (.putfield 354, 3) := by decide +kernel
theorem dX6_lookAtReferences_71 : decode cX6_lookAtReferences 71 = .ok (.iinc 2 1, 3) := by decide +kernel
theorem dX6_lookAtReferences_74 : decode cX6_lookAtReferences 74 = .ok (.goto (-62), 3) := by decide +kernel
theorem dX6_lookAtReferences_77 : decode cX6_lookAtReferences 77 = .ok (.iinc 1 1, 3) := by decide +kernel
theorem dX6_lookAtReferences_80 : decode cX6_lookAtReferences 80 = .ok (.goto (-78), 3) := by decide +kernel
theorem dX6_lookAtReferences_83 : decode cX6_lookAtReferences 83 = .ok (.return_, 1) := by decide +kernel
theorem dX6_fateOf_0 : decode cX6_fateOf 0 = .ok (.aload_n 0, 1) := by decide +kernel
theorem dX6_fateOf_1 : decode cX6_fateOf 1 = .ok (.aload_n 1, 1) := by decide +kernel
theorem dX6_fateOf_2 : decode cX6_fateOf 2 = .ok (.invokevirtual 364, 3) := by decide +kernel
theorem dX6_fateOf_5 : decode cX6_fateOf 5 = .ok (.ifCond .eq 7, 3) := by decide +kernel
theorem dX6_fateOf_8 : decode cX6_fateOf 8 = .ok (.getstatic 367, 3) := by decide +kernel
theorem dX6_fateOf_11 : decode cX6_fateOf 11 = .ok (.areturn, 1) := by decide +kernel
theorem dX6_fateOf_12 : decode cX6_fateOf 12 = .ok (.aload_n 0, 1) := by decide +kernel
theorem dX6_fateOf_13 : decode cX6_fateOf 13 = .ok (.aload_n 1, 1) := by decide +kernel
theorem dX6_fateOf_14 : decode cX6_fateOf 14 = .ok (.invokevirtual 326, 3) := by decide +kernel
theorem dX6_fateOf_17 : decode cX6_fateOf 17 = .ok (.ifCond .eq 9, 3) := by decide +kernel
theorem dX6_fateOf_20 : decode cX6_fateOf 20 = .ok (.getstatic 266, 3) := by decide +kernel
theorem dX6_fateOf_23 : decode cX6_fateOf 23 = .ok (.goto 6, 3) := by decide +kernel
theorem dX6_fateOf_26 : decode cX6_fateOf 26 = .ok (.getstatic 370, 3) := by decide +kernel
theorem dX6_fateOf_29 : decode cX6_fateOf 29 = .ok (.areturn, 1) := by decide +kernel
theorem dX6_isThere_0 : decode cX6_isThere 0 = .ok (.iconst 0, 1) := by decide +kernel
theorem dX6_isThere_1 : decode cX6_isThere 1 = .ok (.istore_n 2, 1) := by decide +kernel
theorem dX6_isThere_2 : decode cX6_isThere 2 = .ok (.iload_n 2, 1) := by decide +kernel
theorem dX6_isThere_3 : decode cX6_isThere 3 = .ok (.aload_n 0, 1) := by decide +kernel
theorem dX6_isThere_4 : decode cX6_isThere 4 = .ok (.getfield 89, 3) := by decide +kernel
theorem dX6_isThere_7 : decode cX6_isThere 7 = .ok (.if_icmp .ge 40, 3) := by decide +kernel
theorem dX6_isThere_10 : decode cX6_isThere 10 = .ok (.aload_n 0, 1) := by decide +kernel
theorem dX6_isThere_11 : decode cX6_isThere 11 = .ok (.getfield 18, 3) := by decide +kernel
theorem dX6_isThere_14 : decode cX6_isThere 14 = .ok (.iload_n 2, 1) := by decide +kernel
theorem dX6_isThere_15 : decode cX6_isThere 15 = .ok (.aaload, 1) := by decide +kernel
theorem dX6_isThere_16 : decode cX6_isThere 16 = .ok (.getfield 116, 3) := by decide +kernel
theorem dX6_isThere_19 : decode cX6_isThere 19 = .ok (.ifCond .eq 22, 3) := by decide +kernel
theorem dX6_isThere_22 : decode cX6_isThere 22 = .ok (.aload_n 0, 1) := by decide +kernel
theorem dX6_isThere_23 : decode cX6_isThere 23 = .ok (.aload_n 0, 1) := by decide +kernel
theorem dX6_isThere_24 : decode cX6_isThere 24 = .ok (.getfield 18, 3) := by decide +kernel
theorem dX6_isThere_27 : decode cX6_isThere 27 = .ok (.iload_n 2, 1) := by decide +kernel
theorem dX6_isThere_28 : decode cX6_isThere 28 = .ok (.aaload, 1) := by decide +kernel
theorem dX6_isThere_29 : decode cX6_isThere 29 = .ok (.getfield 104, 3) := by decide +kernel
theorem dX6_isThere_32 : decode cX6_isThere 32 = .ok (.aload_n 1, 1) := by decide +kernel
theorem dX6_isThere_33 : decode cX6_isThere 33 = .ok (.invokevirtual 334, 3) := by decide +kernel
theorem dX6_isThere_36 : decode cX6_isThere 36 = .ok (.ifCond .eq 5, 3) := by decide +kernel
theorem dX6_isThere_39 : decode cX6_isThere 39 = .ok (.iconst 1, 1) := by decide +kernel
theorem dX6_isThere_40 : decode cX6_isThere 40 = .ok (.ireturn, 1) := by decide +kernel
theorem dX6_isThere_41 : decode cX6_isThere 41 = .ok (.iinc 2 1, 3) := by decide +kernel
theorem dX6_isThere_44 : decode cX6_isThere 44 = .ok (.goto (-42), 3) := by decide +kernel
theorem dX6_isThere_47 : decode cX6_isThere 47 = .ok (.iconst 0, 1) := by decide +kernel
theorem dX6_isThere_48 : decode cX6_isThere 48 = .ok (.ireturn, 1) := by decide +kernel
theorem dX6_isBroken_0 : decode cX6_isBroken 0 = .ok (.aload_n 1, 1) := by decide +kernel
theorem dX6_isBroken_1 : decode cX6_isBroken 1 = .ok (.getfield 354, 3) := by decide +kernel
theorem dX6_isBroken_4 : decode cX6_isBroken 4 = .ok (.getstatic 370, 3) := by decide +kernel
theorem dX6_isBroken_7 : decode cX6_isBroken 7 = .ok (.if_acmp .ne 29, 3) := by decide +kernel
theorem dX6_isBroken_10 : decode cX6_isBroken 10 = .ok (.aload_n 0, 1) := by decide +kernel
theorem dX6_isBroken_11 : decode cX6_isBroken 11 = .ok (.aload_n 1, 1) := by decide +kernel
theorem dX6_isBroken_12 : decode cX6_isBroken 12 = .ok (.getfield 128, 3) := by decide +kernel
theorem dX6_isBroken_15 : decode cX6_isBroken 15 = .ok (.invokevirtual 326, 3) := by decide +kernel
theorem dX6_isBroken_18 : decode cX6_isBroken 18 = .ok (.ifCond .eq 18, 3) := by decide +kernel
theorem dX6_isBroken_21 : decode cX6_isBroken 21 = .ok (.aload_n 0, 1) := by decide +kernel
theorem dX6_isBroken_22 : decode cX6_isBroken 22 = .ok (.aload_n 1, 1) := by decide +kernel
theorem dX6_isBroken_23 : decode cX6_isBroken 23 = .ok (.getfield 128, 3) := by decide +kernel
theorem dX6_isBroken_26 : decode cX6_isBroken 26 = .ok (.invokevirtual 364, 3) := by decide +kernel
theorem dX6_isBroken_29 : decode cX6_isBroken 29 = .ok (.ifCond .ne 7, 3) := by decide +kernel
theorem dX6_isBroken_32 : decode cX6_isBroken 32 = .ok (.iconst 1, 1) := by decide +kernel
theorem dX6_isBroken_33 : decode cX6_isBroken 33 = .ok (.goto 4, 3) := by decide +kernel
theorem dX6_isBroken_36 : decode cX6_isBroken 36 = .ok (.iconst 0, 1) := by decide +kernel
theorem dX6_isBroken_37 : decode cX6_isBroken 37 = .ok (.ireturn, 1) := by decide +kernel
theorem dX6_countBroken_0 : decode cX6_countBroken 0 = .ok (.iconst 0, 1) := by decide +kernel
theorem dX6_countBroken_1 : decode cX6_countBroken 1 = .ok (.istore_n 2, 1) := by decide +kernel
theorem dX6_countBroken_2 : decode cX6_countBroken 2 = .ok (.iconst 0, 1) := by decide +kernel
theorem dX6_countBroken_3 : decode cX6_countBroken 3 = .ok (.istore_n 3, 1) := by decide +kernel
theorem dX6_countBroken_4 : decode cX6_countBroken 4 = .ok (.iload_n 3, 1) := by decide +kernel
theorem dX6_countBroken_5 : decode cX6_countBroken 5 = .ok (.aload_n 1, 1) := by decide +kernel
theorem dX6_countBroken_6 : decode cX6_countBroken 6 = .ok (.getfield 119, 3) := by decide +kernel
theorem dX6_countBroken_9 : decode cX6_countBroken 9 = .ok (.if_icmp .ge 25, 3) := by decide +kernel
theorem dX6_countBroken_12 : decode cX6_countBroken 12 = .ok (.aload_n 0, 1) := by decide +kernel
theorem dX6_countBroken_13 : decode cX6_countBroken 13 = .ok (.aload_n 1, 1) := by decide +kernel
theorem dX6_countBroken_14 : decode cX6_countBroken 14 = .ok (.getfield 124, 3) := by decide +kernel
theorem dX6_countBroken_17 : decode cX6_countBroken 17 = .ok (.iload_n 3, 1) := by decide +kernel
theorem dX6_countBroken_18 : decode cX6_countBroken 18 = .ok (.aaload, 1) := by decide +kernel
theorem dX6_countBroken_19 : decode cX6_countBroken 19 = .ok (.invokevirtual 373, 3) := by decide +kernel
theorem dX6_countBroken_22 : decode cX6_countBroken 22 = .ok (.ifCond .eq 6, 3) := by decide +kernel
theorem dX6_countBroken_25 : decode cX6_countBroken 25 = .ok (.iinc 2 1, 3) := by decide +kernel
theorem dX6_countBroken_28 : decode cX6_countBroken 28 = .ok (.iinc 3 1, 3) := by decide +kernel
theorem dX6_countBroken_31 : decode cX6_countBroken 31 = .ok (.goto (-27), 3) := by decide +kernel
theorem dX6_countBroken_34 : decode cX6_countBroken 34 = .ok (.iload_n 2, 1) := by decide +kernel
theorem dX6_countBroken_35 : decode cX6_countBroken 35 = .ok (.ireturn, 1) := by decide +kernel
theorem dX6_tellFacts_0 : decode cX6_tellFacts 0 = .ok (.iconst 0, 1) := by decide +kernel
theorem dX6_tellFacts_1 : decode cX6_tellFacts 1 = .ok (.istore_n 1, 1) := by decide +kernel
theorem dX6_tellFacts_2 : decode cX6_tellFacts 2 = .ok (.iconst 0, 1) := by decide +kernel
theorem dX6_tellFacts_3 : decode cX6_tellFacts 3 = .ok (.istore_n 2, 1) := by decide +kernel
theorem dX6_tellFacts_4 : decode cX6_tellFacts 4 = .ok (.iload_n 2, 1) := by decide +kernel
theorem dX6_tellFacts_5 : decode cX6_tellFacts 5 = .ok (.aload_n 0, 1) := by decide +kernel
theorem dX6_tellFacts_6 : decode cX6_tellFacts 6 = .ok (.getfield 89, 3) := by decide +kernel
theorem dX6_tellFacts_9 : decode cX6_tellFacts 9 = .ok (.if_icmp .ge 91, 3) := by decide +kernel
theorem dX6_tellFacts_12 : decode cX6_tellFacts 12 = .ok (.aload_n 0, 1) := by decide +kernel
theorem dX6_tellFacts_13 : decode cX6_tellFacts 13 = .ok (.getfield 18, 3) := by decide +kernel
theorem dX6_tellFacts_16 : decode cX6_tellFacts 16 = .ok (.iload_n 2, 1) := by decide +kernel
theorem dX6_tellFacts_17 : decode cX6_tellFacts 17 = .ok (.aaload, 1) := by decide +kernel
theorem dX6_tellFacts_18 : decode cX6_tellFacts 18 = .ok (.astore_n 3, 1) := by decide +kernel
theorem dX6_tellFacts_19 : decode cX6_tellFacts 19 = .ok (.iconst 0, 1) := by decide +kernel
theorem dX6_tellFacts_20 : decode cX6_tellFacts 20 = .ok (.istore 4, 2) := by decide +kernel
theorem dX6_tellFacts_22 : decode cX6_tellFacts 22 = .ok (.iload 4, 2) := by decide +kernel
theorem dX6_tellFacts_24 : decode cX6_tellFacts 24 = .ok (.bipush 8, 2) := by decide +kernel
theorem dX6_tellFacts_26 : decode cX6_tellFacts 26 = .ok (.if_icmp .ge 68, 3) := by decide +kernel
theorem dX6_tellFacts_29 : decode cX6_tellFacts 29 = .ok (.aload_n 3, 1) := by decide +kernel
theorem dX6_tellFacts_30 : decode cX6_tellFacts 30 = .ok (.getfield 116, 3) := by decide +kernel
theorem dX6_tellFacts_33 : decode cX6_tellFacts 33 = .ok (.ifCond .eq 55, 3) := by decide +kernel
theorem dX6_tellFacts_36 : decode cX6_tellFacts 36 = .ok (.aload_n 3, 1) := by decide +kernel
theorem dX6_tellFacts_37 : decode cX6_tellFacts 37 = .ok (.getfield 139, 3) := by decide +kernel
theorem dX6_tellFacts_40 : decode cX6_tellFacts 40 = .ok (.iload 4, 2) := by decide +kernel
theorem dX6_tellFacts_42 : decode cX6_tellFacts 42 = .ok (.baload, 1) := by decide +kernel
theorem dX6_tellFacts_43 : decode cX6_tellFacts 43 = .ok (.ifCond .eq 45, 3) := by decide +kernel
theorem dX6_tellFacts_46 : decode cX6_tellFacts 46 = .ok (.aload_n 3, 1) := by decide +kernel
theorem dX6_tellFacts_47 : decode cX6_tellFacts 47 = .ok (.getfield 377, 3) := by decide +kernel
theorem dX6_tellFacts_50 : decode cX6_tellFacts 50 = .ok (.iload 4, 2) := by decide +kernel
theorem dX6_tellFacts_52 : decode cX6_tellFacts 52 = .ok (.iaload, 1) := by decide +kernel
theorem dX6_tellFacts_53 : decode cX6_tellFacts 53 = .ok (.aload_n 0, 1) := by decide +kernel
theorem dX6_tellFacts_54 : decode cX6_tellFacts 54 = .ok (.getfield 38, 3) := by decide +kernel
theorem dX6_tellFacts_57 : decode cX6_tellFacts 57 = .ok (.iload 4, 2) := by decide +kernel
theorem dX6_tellFacts_59 : decode cX6_tellFacts 59 = .ok (.iaload, 1) := by decide +kernel
theorem dX6_tellFacts_60 : decode cX6_tellFacts 60 = .ok (.if_icmp .eq 28, 3) := by decide +kernel
theorem dX6_tellFacts_63 : decode cX6_tellFacts 63 = .ok (.aload_n 3, 1) := by decide +kernel
theorem dX6_tellFacts_64 : decode cX6_tellFacts 64 = .ok (.getfield 377, 3) := by decide +kernel
theorem dX6_tellFacts_67 : decode cX6_tellFacts 67 = .ok (.iload 4, 2) := by decide +kernel
theorem dX6_tellFacts_69 : decode cX6_tellFacts 69 = .ok (.aload_n 0, 1) := by decide +kernel
theorem dX6_tellFacts_70 : decode cX6_tellFacts 70 = .ok (.getfield 38, 3) := by decide +kernel
theorem dX6_tellFacts_73 : decode cX6_tellFacts 73 = .ok (.iload 4, 2) := by decide +kernel
theorem dX6_tellFacts_75 : decode cX6_tellFacts 75 = .ok (.iaload, 1) := by decide +kernel
theorem dX6_tellFacts_76 : decode cX6_tellFacts 76 = .ok (.iastore, 1) := by decide +kernel
theorem dX6_tellFacts_77 : decode cX6_tellFacts 77 = .ok (.aload_n 0, 1) := by decide +kernel
theorem dX6_tellFacts_78 : decode cX6_tellFacts 78 = .ok (.aload_n 3, 1) := by decide +kernel
theorem dX6_tellFacts_79 : decode cX6_tellFacts 79 = .ok (.getfield 195, 3) := by decide +kernel
theorem dX6_tellFacts_82 : decode cX6_tellFacts 82 = .ok (.invokevirtual 380, 3) := by decide +kernel
theorem dX6_tellFacts_85 : decode cX6_tellFacts 85 = .ok (.iinc 1 1, 3) := by decide +kernel
theorem dX6_tellFacts_88 : decode cX6_tellFacts 88 = .ok (.iinc 4 1, 3) := by decide +kernel
theorem dX6_tellFacts_91 : decode cX6_tellFacts 91 = .ok (.goto (-69), 3) := by decide +kernel
theorem dX6_tellFacts_94 : decode cX6_tellFacts 94 = .ok (.iinc 2 1, 3) := by decide +kernel
theorem dX6_tellFacts_97 : decode cX6_tellFacts 97 = .ok (.goto (-93), 3) := by decide +kernel
theorem dX6_tellFacts_100 : decode cX6_tellFacts 100 = .ok (.iload_n 1, 1) := by decide +kernel
theorem dX6_tellFacts_101 : decode cX6_tellFacts 101 = .ok (.ireturn, 1) := by decide +kernel
theorem dX6_addErratum_0 : decode cX6_addErratum 0 = .ok (.iload_n 1, 1) := by decide +kernel
theorem dX6_addErratum_1 : decode cX6_addErratum 1 = .ok (.iconst (-1), 1) := by decide +kernel
theorem dX6_addErratum_2 : decode cX6_addErratum 2 = .ok (.if_icmp .eq 18, 3) := by decide +kernel
theorem dX6_addErratum_5 : decode cX6_addErratum 5 = .ok (.aload_n 0, 1) := by decide +kernel
theorem dX6_addErratum_6 : decode cX6_addErratum 6 = .ok (.getfield 30, 3) := by decide +kernel
theorem dX6_addErratum_9 : decode cX6_addErratum 9 = .ok (.iload_n 1, 1) := by decide +kernel
theorem dX6_addErratum_10 : decode cX6_addErratum 10 = .ok (.aaload, 1) := by decide +kernel
theorem dX6_addErratum_11 : decode cX6_addErratum 11 = .ok (.dup, 1) := by decide +kernel
theorem dX6_addErratum_12 : decode cX6_addErratum 12 = .ok (.getfield 276, 3) := by decide +kernel
theorem dX6_addErratum_15 : decode cX6_addErratum 15 = .ok (.iconst 1, 1) := by decide +kernel
theorem dX6_addErratum_16 : decode cX6_addErratum 16 = .ok (.iadd, 1) := by decide +kernel
theorem dX6_addErratum_17 : decode cX6_addErratum 17 = .ok (.putfield 276, 3) := by decide +kernel
theorem dX6_addErratum_20 : decode cX6_addErratum 20 = .ok (.return_, 1) := by decide +kernel
theorem dX6_tellPromises_0 : decode cX6_tellPromises 0 = .ok (.iconst 0, 1) := by decide +kernel
theorem dX6_tellPromises_1 : decode cX6_tellPromises 1 = .ok (.istore_n 1, 1) := by decide +kernel
theorem dX6_tellPromises_2 : decode cX6_tellPromises 2 = .ok (.iconst 0, 1) := by decide +kernel
theorem dX6_tellPromises_3 : decode cX6_tellPromises 3 = .ok (.istore_n 2, 1) := by decide +kernel
theorem dX6_tellPromises_4 : decode cX6_tellPromises 4 = .ok (.iload_n 2, 1) := by decide +kernel
theorem dX6_tellPromises_5 : decode cX6_tellPromises 5 = .ok (.aload_n 0, 1) := by decide +kernel
theorem dX6_tellPromises_6 : decode cX6_tellPromises 6 = .ok (.getfield 89, 3) := by decide +kernel
theorem dX6_tellPromises_9 : decode cX6_tellPromises 9 = .ok (.if_icmp .ge 63, 3) := by decide +kernel
theorem dX6_tellPromises_12 : decode cX6_tellPromises 12 = .ok (.iconst 0, 1) := by decide +kernel
theorem dX6_tellPromises_13 : decode cX6_tellPromises 13 = .ok (.istore_n 3, 1) := by decide +kernel
theorem dX6_tellPromises_14 : decode cX6_tellPromises 14 = .ok (.iload_n 3, 1) := by decide +kernel
theorem dX6_tellPromises_15 : decode cX6_tellPromises 15 = .ok (.aload_n 0, 1) := by decide +kernel
theorem dX6_tellPromises_16 : decode cX6_tellPromises 16 = .ok (.getfield 18, 3) := by decide +kernel
theorem dX6_tellPromises_19 : decode cX6_tellPromises 19 = .ok (.iload_n 2, 1) := by decide +kernel
theorem dX6_tellPromises_20 : decode cX6_tellPromises 20 = .ok (.aaload, 1) := by decide +kernel
theorem dX6_tellPromises_21 : decode cX6_tellPromises 21 = .ok (.getfield 119, 3) := by decide +kernel
theorem dX6_tellPromises_24 : decode cX6_tellPromises 24 = .ok (.if_icmp .ge 42, 3) := by decide +kernel
theorem dX6_tellPromises_27 : decode cX6_tellPromises 27 = .ok (.aload_n 0, 1) := by decide +kernel
theorem dX6_tellPromises_28 : decode cX6_tellPromises 28 = .ok (.getfield 18, 3) := by decide +kernel
theorem dX6_tellPromises_31 : decode cX6_tellPromises 31 = .ok (.iload_n 2, 1) := by decide +kernel
theorem dX6_tellPromises_32 : decode cX6_tellPromises 32 = .ok (.aaload, 1) := by decide +kernel
theorem dX6_tellPromises_33 : decode cX6_tellPromises 33 = .ok (.getfield 124, 3) := by decide +kernel
theorem dX6_tellPromises_36 : decode cX6_tellPromises 36 = .ok (.iload_n 3, 1) := by decide +kernel
theorem dX6_tellPromises_37 : decode cX6_tellPromises 37 = .ok (.aaload, 1) := by decide +kernel
theorem dX6_tellPromises_38 : decode cX6_tellPromises 38 = .ok (.astore 4, 2) := by decide +kernel
theorem dX6_tellPromises_40 : decode cX6_tellPromises 40 = .ok (.aload_n 0, 1) := by decide +kernel
theorem dX6_tellPromises_41 : decode cX6_tellPromises 41 = .ok (.aload 4, 2) := by decide +kernel
theorem dX6_tellPromises_43 : decode cX6_tellPromises 43 = .ok (.invokevirtual 373, 3) := by decide +kernel
theorem dX6_tellPromises_46 : decode cX6_tellPromises 46 = .ok (.ifCond .eq 14, 3) := by decide +kernel
theorem dX6_tellPromises_49 : decode cX6_tellPromises 49 = .ok (.aload 4, 2) := by decide +kernel
theorem dX6_tellPromises_51 : decode cX6_tellPromises 51 = .ok (.getstatic 383, 3) := by decide +kernel
theorem dX6_tellPromises_54 : decode cX6_tellPromises 54 = .ok (.putfield 354, 3) := by decide +kernel
theorem dX6_tellPromises_57 : decode cX6_tellPromises 57 = .ok (.iinc 1 1, 3) := by decide +kernel
theorem dX6_tellPromises_60 : decode cX6_tellPromises 60 = .ok (.iinc 3 1, 3) := by decide +kernel
theorem dX6_tellPromises_63 : decode cX6_tellPromises 63 = .ok (.goto (-49), 3) := by decide +kernel
theorem dX6_tellPromises_66 : decode cX6_tellPromises 66 = .ok (.iinc 2 1, 3) := by decide +kernel
theorem dX6_tellPromises_69 : decode cX6_tellPromises 69 = .ok (.goto (-65), 3) := by decide +kernel
theorem dX6_tellPromises_72 : decode cX6_tellPromises 72 = .ok (.iload_n 1, 1) := by decide +kernel
theorem dX6_tellPromises_73 : decode cX6_tellPromises 73 = .ok (.ireturn, 1) := by decide +kernel
theorem dX6_isContradicted_0 : decode cX6_isContradicted 0 = .ok (.iconst 0, 1) := by decide +kernel
theorem dX6_isContradicted_1 : decode cX6_isContradicted 1 = .ok (.istore_n 3, 1) := by decide +kernel
theorem dX6_isContradicted_2 : decode cX6_isContradicted 2 = .ok (.iconst 0, 1) := by decide +kernel
theorem dX6_isContradicted_3 : decode cX6_isContradicted 3 = .ok (.istore 4, 2) := by decide +kernel
theorem dX6_isContradicted_5 : decode cX6_isContradicted 5 = .ok (.iconst 0, 1) := by decide +kernel
theorem dX6_isContradicted_6 : decode cX6_isContradicted 6 = .ok (.istore 5, 2) := by decide +kernel
theorem dX6_isContradicted_8 : decode cX6_isContradicted 8 = .ok (.iload 5, 2) := by decide +kernel
theorem dX6_isContradicted_10 : decode cX6_isContradicted 10 = .ok (.aload_n 0, 1) := by decide +kernel
theorem dX6_isContradicted_11 : decode cX6_isContradicted 11 = .ok (.getfield 89, 3) := by decide +kernel
theorem dX6_isContradicted_14 : decode cX6_isContradicted 14 = .ok (.if_icmp .ge 66, 3) := by decide +kernel
theorem dX6_isContradicted_17 : decode cX6_isContradicted 17 = .ok (.aload_n 0, 1) := by decide +kernel
theorem dX6_isContradicted_18 : decode cX6_isContradicted 18 = .ok (.getfield 18, 3) := by decide +kernel
theorem dX6_isContradicted_21 : decode cX6_isContradicted 21 = .ok (.iload 5, 2) := by decide +kernel
theorem dX6_isContradicted_23 : decode cX6_isContradicted 23 = .ok (.aaload, 1) := by decide +kernel
theorem dX6_isContradicted_24 : decode cX6_isContradicted 24 = .ok (.astore 6, 2) := by decide +kernel
theorem dX6_isContradicted_26 : decode cX6_isContradicted 26 = .ok (.aload 6, 2) := by decide +kernel
theorem dX6_isContradicted_28 : decode cX6_isContradicted 28 = .ok (.iload_n 2, 1) := by decide +kernel
theorem dX6_isContradicted_29 : decode cX6_isContradicted 29 = .ok (.invokevirtual 279, 3) := by decide +kernel
theorem dX6_isContradicted_32 : decode cX6_isContradicted 32 = .ok (.ifCond .eq 42, 3) := by decide +kernel
theorem dX6_isContradicted_35 : decode cX6_isContradicted 35 = .ok (.aload 6, 2) := by decide +kernel
theorem dX6_isContradicted_37 : decode cX6_isContradicted 37 = .ok (.getfield 139, 3) := by decide +kernel
theorem dX6_isContradicted_40 : decode cX6_isContradicted 40 = .ok (.iload_n 1, 1) := by decide +kernel
theorem dX6_isContradicted_41 : decode cX6_isContradicted 41 = .ok (.baload, 1) := by decide +kernel
theorem dX6_isContradicted_42 : decode cX6_isContradicted 42 = .ok (.ifCond .eq 32, 3) := by decide +kernel
theorem dX6_isContradicted_45 : decode cX6_isContradicted 45 = .ok (.iload_n 3, 1) := by decide +kernel
theorem dX6_isContradicted_46 : decode cX6_isContradicted 46 = .ok (.ifCond .eq 17, 3) := by decide +kernel
theorem dX6_isContradicted_49 : decode cX6_isContradicted 49 = .ok (.aload 6, 2) := by decide +kernel
theorem dX6_isContradicted_51 : decode cX6_isContradicted 51 = .ok (.getfield 377, 3) := by decide +kernel
theorem dX6_isContradicted_54 : decode cX6_isContradicted 54 = .ok (.iload_n 1, 1) := by decide +kernel
theorem dX6_isContradicted_55 : decode cX6_isContradicted 55 = .ok (.iaload, 1) := by decide +kernel
theorem dX6_isContradicted_56 : decode cX6_isContradicted 56 = .ok (.iload 4, 2) := by decide +kernel
theorem dX6_isContradicted_58 : decode cX6_isContradicted 58 = .ok (.if_icmp .eq 5, 3) := by decide +kernel
theorem dX6_isContradicted_61 : decode cX6_isContradicted 61 = .ok (.iconst 1, 1) := by decide +kernel
theorem dX6_isContradicted_62 : decode cX6_isContradicted 62 = .ok (.ireturn, 1) := by decide +kernel
theorem dX6_isContradicted_63 : decode cX6_isContradicted 63 = .ok (.iconst 1, 1) := by decide +kernel
theorem dX6_isContradicted_64 : decode cX6_isContradicted 64 = .ok (.istore_n 3, 1) := by decide +kernel
theorem dX6_isContradicted_65 : decode cX6_isContradicted 65 = .ok (.aload 6, 2) := by decide +kernel
theorem dX6_isContradicted_67 : decode cX6_isContradicted 67 = .ok (.getfield 377, 3) := by decide +kernel
theorem dX6_isContradicted_70 : decode cX6_isContradicted 70 = .ok (.iload_n 1, 1) := by decide +kernel
theorem dX6_isContradicted_71 : decode cX6_isContradicted 71 = .ok (.iaload, 1) := by decide +kernel
theorem dX6_isContradicted_72 : decode cX6_isContradicted 72 = .ok (.istore 4, 2) := by decide +kernel
theorem dX6_isContradicted_74 : decode cX6_isContradicted 74 = .ok (.iinc 5 1, 3) := by decide +kernel
theorem dX6_isContradicted_77 : decode cX6_isContradicted 77 = .ok (.goto (-69), 3) := by decide +kernel
theorem dX6_isContradicted_80 : decode cX6_isContradicted 80 = .ok (.iconst 0, 1) := by decide +kernel
theorem dX6_isContradicted_81 : decode cX6_isContradicted 81 = .ok (.ireturn, 1) := by decide +kernel
theorem dX6_isWithin_0 : decode cX6_isWithin 0 = .ok (.iload_n 1, 1) := by decide +kernel
theorem dX6_isWithin_1 : decode cX6_isWithin 1 = .ok (.istore_n 3, 1) := by decide +kernel
theorem dX6_isWithin_2 : decode cX6_isWithin 2 = .ok (.iconst 0, 1) := by decide +kernel
theorem dX6_isWithin_3 : decode cX6_isWithin 3 = .ok (.istore 4, 2) := by decide +kernel
theorem dX6_isWithin_5 : decode cX6_isWithin 5 = .ok (.iload 4, 2) := by decide +kernel
theorem dX6_isWithin_7 : decode cX6_isWithin 7 = .ok (.bipush 10, 2) := by decide +kernel
theorem dX6_isWithin_9 : decode cX6_isWithin 9 = .ok (.if_icmp .ge 28, 3) := by decide +kernel
theorem dX6_isWithin_12 : decode cX6_isWithin 12 = .ok (.iload_n 3, 1) := by decide +kernel
theorem dX6_isWithin_13 : decode cX6_isWithin 13 = .ok (.iconst (-1), 1) := by decide +kernel
theorem dX6_isWithin_14 : decode cX6_isWithin 14 = .ok (.if_icmp .eq 23, 3) := by decide +kernel
theorem dX6_isWithin_17 : decode cX6_isWithin 17 = .ok (.iload_n 3, 1) := by decide +kernel
theorem dX6_isWithin_18 : decode cX6_isWithin 18 = .ok (.iload_n 2, 1) := by decide +kernel
theorem dX6_isWithin_19 : decode cX6_isWithin 19 = .ok (.if_icmp .ne 5, 3) := by decide +kernel
theorem dX6_isWithin_22 : decode cX6_isWithin 22 = .ok (.iconst 1, 1) := by decide +kernel
theorem dX6_isWithin_23 : decode cX6_isWithin 23 = .ok (.ireturn, 1) := by decide +kernel
theorem dX6_isWithin_24 : decode cX6_isWithin 24 = .ok (.aload_n 0, 1) := by decide +kernel
theorem dX6_isWithin_25 : decode cX6_isWithin 25 = .ok (.getfield 34, 3) := by decide +kernel
theorem dX6_isWithin_28 : decode cX6_isWithin 28 = .ok (.iload_n 3, 1) := by decide +kernel
theorem dX6_isWithin_29 : decode cX6_isWithin 29 = .ok (.iaload, 1) := by decide +kernel
theorem dX6_isWithin_30 : decode cX6_isWithin 30 = .ok (.istore_n 3, 1) := by decide +kernel
theorem dX6_isWithin_31 : decode cX6_isWithin 31 = .ok (.iinc 4 1, 3) := by decide +kernel
theorem dX6_isWithin_34 : decode cX6_isWithin 34 = .ok (.goto (-29), 3) := by decide +kernel
theorem dX6_isWithin_37 : decode cX6_isWithin 37 = .ok (.iconst 0, 1) := by decide +kernel
theorem dX6_isWithin_38 : decode cX6_isWithin 38 = .ok (.ireturn, 1) := by decide +kernel
theorem dL_sign_0 : decode cL_sign 0 = .ok (.aload_n 2, 1) := by decide +kernel
theorem dL_sign_1 : decode cL_sign 1 = .ok (.iconst 0, 1) := by decide +kernel
theorem dL_sign_2 : decode cL_sign 2 = .ok (.aload_n 0, 1) := by decide +kernel
theorem dL_sign_3 : decode cL_sign 3 = .ok (.iload_n 1, 1) := by decide +kernel
theorem dL_sign_4 : decode cL_sign 4 = .ok (.invokevirtual 7, 3) := by decide +kernel
theorem dL_sign_7 : decode cL_sign 7 = .ok (.i2l, 1) := by decide +kernel
theorem dL_sign_8 : decode cL_sign 8 = .ok (.lastore, 1) := by decide +kernel
theorem dL_sign_9 : decode cL_sign 9 = .ok (.goto 9, 3) := by decide +kernel
theorem dL_sign_12 : decode cL_sign 12 = .ok (.astore_n 3, 1) := by decide +kernel
theorem dL_sign_13 : decode cL_sign 13 = .ok (.iconst 1, 1) := by decide +kernel
theorem dL_sign_14 : decode cL_sign 14 = .ok (.ireturn, 1) := by decide +kernel
theorem dL_sign_15 : decode cL_sign 15 = .ok (.astore_n 3, 1) := by decide +kernel
theorem dL_sign_16 : decode cL_sign 16 = .ok (.iconst 2, 1) := by decide +kernel
theorem dL_sign_17 : decode cL_sign 17 = .ok (.ireturn, 1) := by decide +kernel
theorem dL_sign_18 : decode cL_sign 18 = .ok (.iconst 0, 1) := by decide +kernel
theorem dL_sign_19 : decode cL_sign 19 = .ok (.ireturn, 1) := by decide +kernel
theorem dL_rule_0 : decode cL_rule 0 = .ok (.aload_n 2, 1) := by decide +kernel
theorem dL_rule_1 : decode cL_rule 1 = .ok (.iconst 0, 1) := by decide +kernel
theorem dL_rule_2 : decode cL_rule 2 = .ok (.aload_n 0, 1) := by decide +kernel
theorem dL_rule_3 : decode cL_rule 3 = .ok (.iload_n 1, 1) := by decide +kernel
theorem dL_rule_4 : decode cL_rule 4 = .ok (.invokevirtual 17, 3) := by decide +kernel
theorem dL_rule_7 : decode cL_rule 7 = .ok (.ifCond .eq 7, 3) := by decide +kernel
theorem dL_rule_10 : decode cL_rule 10 = .ok (.lconst 1, 1) := by decide +kernel
theorem dL_rule_11 : decode cL_rule 11 = .ok (.goto 4, 3) := by decide +kernel
theorem dL_rule_14 : decode cL_rule 14 = .ok (.lconst 0, 1) := by decide +kernel
theorem dL_rule_15 : decode cL_rule 15 = .ok (.lastore, 1) := by decide +kernel
theorem dL_rule_16 : decode cL_rule 16 = .ok (.goto 6, 3) := by decide +kernel
theorem dL_rule_19 : decode cL_rule 19 = .ok (.astore_n 3, 1) := by decide +kernel
theorem dL_rule_20 : decode cL_rule 20 = .ok (.iconst 1, 1) := by decide +kernel
theorem dL_rule_21 : decode cL_rule 21 = .ok (.ireturn, 1) := by decide +kernel
theorem dL_rule_22 : decode cL_rule 22 = .ok (.iconst 0, 1) := by decide +kernel
theorem dL_rule_23 : decode cL_rule 23 = .ok (.ireturn, 1) := by decide +kernel
theorem dL_article_0 : decode cL_article 0 = .ok (.aload_n 3, 1) := by decide +kernel
theorem dL_article_1 : decode cL_article 1 = .ok (.iconst 0, 1) := by decide +kernel
theorem dL_article_2 : decode cL_article 2 = .ok (.aload_n 0, 1) := by decide +kernel
theorem dL_article_3 : decode cL_article 3 = .ok (.iload_n 1, 1) := by decide +kernel
theorem dL_article_4 : decode cL_article 4 = .ok (.iload_n 2, 1) := by decide +kernel
theorem dL_article_5 : decode cL_article 5 = .ok (.invokevirtual 21, 3) := by decide +kernel
theorem dL_article_8 : decode cL_article 8 = .ok (.i2l, 1) := by decide +kernel
theorem dL_article_9 : decode cL_article 9 = .ok (.lastore, 1) := by decide +kernel
theorem dL_article_10 : decode cL_article 10 = .ok (.goto 15, 3) := by decide +kernel
theorem dL_article_13 : decode cL_article 13 = .ok (.astore 4, 2) := by decide +kernel
theorem dL_article_15 : decode cL_article 15 = .ok (.iconst 1, 1) := by decide +kernel
theorem dL_article_16 : decode cL_article 16 = .ok (.ireturn, 1) := by decide +kernel
theorem dL_article_17 : decode cL_article 17 = .ok (.astore 4, 2) := by decide +kernel
theorem dL_article_19 : decode cL_article 19 = .ok (.iconst 2, 1) := by decide +kernel
theorem dL_article_20 : decode cL_article 20 = .ok (.ireturn, 1) := by decide +kernel
theorem dL_article_21 : decode cL_article 21 = .ok (.astore 4, 2) := by decide +kernel
theorem dL_article_23 : decode cL_article 23 = .ok (.iconst 3, 1) := by decide +kernel
theorem dL_article_24 : decode cL_article 24 = .ok (.ireturn, 1) := by decide +kernel
theorem dL_article_25 : decode cL_article 25 = .ok (.iconst 0, 1) := by decide +kernel
theorem dL_article_26 : decode cL_article 26 = .ok (.ireturn, 1) := by decide +kernel
theorem dL_under_0 : decode cL_under 0 = .ok (.aload_n 3, 1) := by decide +kernel
theorem dL_under_1 : decode cL_under 1 = .ok (.iconst 0, 1) := by decide +kernel
theorem dL_under_2 : decode cL_under 2 = .ok (.aload_n 0, 1) := by decide +kernel
theorem dL_under_3 : decode cL_under 3 = .ok (.iload_n 1, 1) := by decide +kernel
theorem dL_under_4 : decode cL_under 4 = .ok (.iload_n 2, 1) := by decide +kernel
theorem dL_under_5 : decode cL_under 5 = .ok (.invokevirtual 27, 3) := by decide +kernel
theorem dL_under_8 : decode cL_under 8 = .ok (.i2l, 1) := by decide +kernel
theorem dL_under_9 : decode cL_under 9 = .ok (.lastore, 1) := by decide +kernel
theorem dL_under_10 : decode cL_under 10 = .ok (.goto 11, 3) := by decide +kernel
theorem dL_under_13 : decode cL_under 13 = .ok (.astore 4, 2) := by decide +kernel
theorem dL_under_15 : decode cL_under 15 = .ok (.iconst 1, 1) := by decide +kernel
theorem dL_under_16 : decode cL_under 16 = .ok (.ireturn, 1) := by decide +kernel
theorem dL_under_17 : decode cL_under 17 = .ok (.astore 4, 2) := by decide +kernel
theorem dL_under_19 : decode cL_under 19 = .ok (.iconst 2, 1) := by decide +kernel
theorem dL_under_20 : decode cL_under 20 = .ok (.ireturn, 1) := by decide +kernel
theorem dL_under_21 : decode cL_under 21 = .ok (.iconst 0, 1) := by decide +kernel
theorem dL_under_22 : decode cL_under 22 = .ok (.ireturn, 1) := by decide +kernel
theorem dL_refer_0 : decode cL_refer 0 = .ok (.aload_n 2, 1) := by decide +kernel
theorem dL_refer_1 : decode cL_refer 1 = .ok (.iconst 0, 1) := by decide +kernel
theorem dL_refer_2 : decode cL_refer 2 = .ok (.aload_n 0, 1) := by decide +kernel
theorem dL_refer_3 : decode cL_refer 3 = .ok (.iload_n 1, 1) := by decide +kernel
theorem dL_refer_4 : decode cL_refer 4 = .ok (.invokevirtual 30, 3) := by decide +kernel
theorem dL_refer_7 : decode cL_refer 7 = .ok (.i2l, 1) := by decide +kernel
theorem dL_refer_8 : decode cL_refer 8 = .ok (.lastore, 1) := by decide +kernel
theorem dL_refer_9 : decode cL_refer 9 = .ok (.goto 9, 3) := by decide +kernel
theorem dL_refer_12 : decode cL_refer 12 = .ok (.astore_n 3, 1) := by decide +kernel
theorem dL_refer_13 : decode cL_refer 13 = .ok (.iconst 1, 1) := by decide +kernel
theorem dL_refer_14 : decode cL_refer 14 = .ok (.ireturn, 1) := by decide +kernel
theorem dL_refer_15 : decode cL_refer 15 = .ok (.astore_n 3, 1) := by decide +kernel
theorem dL_refer_16 : decode cL_refer 16 = .ok (.iconst 2, 1) := by decide +kernel
theorem dL_refer_17 : decode cL_refer 17 = .ok (.ireturn, 1) := by decide +kernel
theorem dL_refer_18 : decode cL_refer 18 = .ok (.iconst 0, 1) := by decide +kernel
theorem dL_refer_19 : decode cL_refer 19 = .ok (.ireturn, 1) := by decide +kernel
theorem dL_use_0 : decode cL_use 0 = .ok (.aload_n 3, 1) := by decide +kernel
theorem dL_use_1 : decode cL_use 1 = .ok (.iconst 0, 1) := by decide +kernel
theorem dL_use_2 : decode cL_use 2 = .ok (.aload_n 0, 1) := by decide +kernel
theorem dL_use_3 : decode cL_use 3 = .ok (.iload_n 1, 1) := by decide +kernel
theorem dL_use_4 : decode cL_use 4 = .ok (.iload_n 2, 1) := by decide +kernel
theorem dL_use_5 : decode cL_use 5 = .ok (.invokevirtual 34, 3) := by decide +kernel
theorem dL_use_8 : decode cL_use 8 = .ok (.ifCond .eq 7, 3) := by decide +kernel
theorem dL_use_11 : decode cL_use 11 = .ok (.lconst 1, 1) := by decide +kernel
theorem dL_use_12 : decode cL_use 12 = .ok (.goto 4, 3) := by decide +kernel
theorem dL_use_15 : decode cL_use 15 = .ok (.lconst 0, 1) := by decide +kernel
theorem dL_use_16 : decode cL_use 16 = .ok (.lastore, 1) := by decide +kernel
theorem dL_use_17 : decode cL_use 17 = .ok (.goto 11, 3) := by decide +kernel
theorem dL_use_20 : decode cL_use 20 = .ok (.astore 4, 2) := by decide +kernel
theorem dL_use_22 : decode cL_use 22 = .ok (.iconst 1, 1) := by decide +kernel
theorem dL_use_23 : decode cL_use 23 = .ok (.ireturn, 1) := by decide +kernel
theorem dL_use_24 : decode cL_use 24 = .ok (.astore 4, 2) := by decide +kernel
theorem dL_use_26 : decode cL_use 26 = .ok (.iconst 2, 1) := by decide +kernel
theorem dL_use_27 : decode cL_use 27 = .ok (.ireturn, 1) := by decide +kernel
theorem dL_use_28 : decode cL_use 28 = .ok (.iconst 0, 1) := by decide +kernel
theorem dL_use_29 : decode cL_use 29 = .ok (.ireturn, 1) := by decide +kernel
theorem dL_change_0 : decode cL_change 0 = .ok (.aload_n 3, 1) := by decide +kernel
theorem dL_change_1 : decode cL_change 1 = .ok (.iconst 0, 1) := by decide +kernel
theorem dL_change_2 : decode cL_change 2 = .ok (.aload_n 0, 1) := by decide +kernel
theorem dL_change_3 : decode cL_change 3 = .ok (.iload_n 1, 1) := by decide +kernel
theorem dL_change_4 : decode cL_change 4 = .ok (.iload_n 2, 1) := by decide +kernel
theorem dL_change_5 : decode cL_change 5 = .ok (.invokevirtual 38, 3) := by decide +kernel
theorem dL_change_8 : decode cL_change 8 = .ok (.i2l, 1) := by decide +kernel
theorem dL_change_9 : decode cL_change 9 = .ok (.lastore, 1) := by decide +kernel
theorem dL_change_10 : decode cL_change 10 = .ok (.goto 7, 3) := by decide +kernel
theorem dL_change_13 : decode cL_change 13 = .ok (.astore 4, 2) := by decide +kernel
theorem dL_change_15 : decode cL_change 15 = .ok (.iconst 1, 1) := by decide +kernel
theorem dL_change_16 : decode cL_change 16 = .ok (.ireturn, 1) := by decide +kernel
theorem dL_change_17 : decode cL_change 17 = .ok (.iconst 0, 1) := by decide +kernel
theorem dL_change_18 : decode cL_change 18 = .ok (.ireturn, 1) := by decide +kernel
theorem dL_forbid_0 : decode cL_forbid 0 = .ok (.aload_n 3, 1) := by decide +kernel
theorem dL_forbid_1 : decode cL_forbid 1 = .ok (.iconst 0, 1) := by decide +kernel
theorem dL_forbid_2 : decode cL_forbid 2 = .ok (.aload_n 0, 1) := by decide +kernel
theorem dL_forbid_3 : decode cL_forbid 3 = .ok (.iload_n 1, 1) := by decide +kernel
theorem dL_forbid_4 : decode cL_forbid 4 = .ok (.iload_n 2, 1) := by decide +kernel
theorem dL_forbid_5 : decode cL_forbid 5 = .ok (.invokevirtual 41, 3) := by decide +kernel
theorem dL_forbid_8 : decode cL_forbid 8 = .ok (.ifCond .eq 7, 3) := by decide +kernel
theorem dL_forbid_11 : decode cL_forbid 11 = .ok (.lconst 1, 1) := by decide +kernel
theorem dL_forbid_12 : decode cL_forbid 12 = .ok (.goto 4, 3) := by decide +kernel
theorem dL_forbid_15 : decode cL_forbid 15 = .ok (.lconst 0, 1) := by decide +kernel
theorem dL_forbid_16 : decode cL_forbid 16 = .ok (.lastore, 1) := by decide +kernel
theorem dL_forbid_17 : decode cL_forbid 17 = .ok (.goto 11, 3) := by decide +kernel
theorem dL_forbid_20 : decode cL_forbid 20 = .ok (.astore 4, 2) := by decide +kernel
theorem dL_forbid_22 : decode cL_forbid 22 = .ok (.iconst 1, 1) := by decide +kernel
theorem dL_forbid_23 : decode cL_forbid 23 = .ok (.ireturn, 1) := by decide +kernel
theorem dL_forbid_24 : decode cL_forbid 24 = .ok (.astore 4, 2) := by decide +kernel
theorem dL_forbid_26 : decode cL_forbid 26 = .ok (.iconst 2, 1) := by decide +kernel
theorem dL_forbid_27 : decode cL_forbid 27 = .ok (.ireturn, 1) := by decide +kernel
theorem dL_forbid_28 : decode cL_forbid 28 = .ok (.iconst 0, 1) := by decide +kernel
theorem dL_forbid_29 : decode cL_forbid 29 = .ok (.ireturn, 1) := by decide +kernel
theorem dL_volume_0 : decode cL_volume 0 = .ok (.aload_n 3, 1) := by decide +kernel
theorem dL_volume_1 : decode cL_volume 1 = .ok (.iconst 0, 1) := by decide +kernel
theorem dL_volume_2 : decode cL_volume 2 = .ok (.aload_n 0, 1) := by decide +kernel
theorem dL_volume_3 : decode cL_volume 3 = .ok (.iload_n 1, 1) := by decide +kernel
theorem dL_volume_4 : decode cL_volume 4 = .ok (.iload_n 2, 1) := by decide +kernel
theorem dL_volume_5 : decode cL_volume 5 = .ok (.invokevirtual 45, 3) := by decide +kernel
theorem dL_volume_8 : decode cL_volume 8 = .ok (.i2l, 1) := by decide +kernel
theorem dL_volume_9 : decode cL_volume 9 = .ok (.lastore, 1) := by decide +kernel
theorem dL_volume_10 : decode cL_volume 10 = .ok (.goto 11, 3) := by decide +kernel
theorem dL_volume_13 : decode cL_volume 13 = .ok (.astore 4, 2) := by decide +kernel
theorem dL_volume_15 : decode cL_volume 15 = .ok (.iconst 1, 1) := by decide +kernel
theorem dL_volume_16 : decode cL_volume 16 = .ok (.ireturn, 1) := by decide +kernel
theorem dL_volume_17 : decode cL_volume 17 = .ok (.astore 4, 2) := by decide +kernel
theorem dL_volume_19 : decode cL_volume 19 = .ok (.iconst 2, 1) := by decide +kernel
theorem dL_volume_20 : decode cL_volume 20 = .ok (.ireturn, 1) := by decide +kernel
theorem dL_volume_21 : decode cL_volume 21 = .ok (.iconst 0, 1) := by decide +kernel
theorem dL_volume_22 : decode cL_volume 22 = .ok (.ireturn, 1) := by decide +kernel
theorem dL_contributor_0 : decode cL_contributor 0 = .ok (.aload_n 2, 1) := by decide +kernel
theorem dL_contributor_1 : decode cL_contributor 1 = .ok (.iconst 0, 1) := by decide +kernel
theorem dL_contributor_2 : decode cL_contributor 2 = .ok (.aload_n 0, 1) := by decide +kernel
theorem dL_contributor_3 : decode cL_contributor 3 = .ok (.iload_n 1, 1) := by decide +kernel
theorem dL_contributor_4 : decode cL_contributor 4 = .ok (.invokevirtual 49, 3) := by decide +kernel
theorem dL_contributor_7 : decode cL_contributor 7 = .ok (.i2l, 1) := by decide +kernel
theorem dL_contributor_8 : decode cL_contributor 8 = .ok (.lastore, 1) := by decide +kernel
theorem dL_contributor_9 : decode cL_contributor 9 = .ok (.goto 9, 3) := by decide +kernel
theorem dL_contributor_12 : decode cL_contributor 12 = .ok (.astore_n 3, 1) := by decide +kernel
theorem dL_contributor_13 : decode cL_contributor 13 = .ok (.iconst 1, 1) := by decide +kernel
theorem dL_contributor_14 : decode cL_contributor 14 = .ok (.ireturn, 1) := by decide +kernel
theorem dL_contributor_15 : decode cL_contributor 15 = .ok (.astore_n 3, 1) := by decide +kernel
theorem dL_contributor_16 : decode cL_contributor 16 = .ok (.iconst 2, 1) := by decide +kernel
theorem dL_contributor_17 : decode cL_contributor 17 = .ok (.ireturn, 1) := by decide +kernel
theorem dL_contributor_18 : decode cL_contributor 18 = .ok (.iconst 0, 1) := by decide +kernel
theorem dL_contributor_19 : decode cL_contributor 19 = .ok (.ireturn, 1) := by decide +kernel
theorem dL_quarrel_0 : decode cL_quarrel 0 = .ok (.aload_n 3, 1) := by decide +kernel
theorem dL_quarrel_1 : decode cL_quarrel 1 = .ok (.iconst 0, 1) := by decide +kernel
theorem dL_quarrel_2 : decode cL_quarrel 2 = .ok (.aload_n 0, 1) := by decide +kernel
theorem dL_quarrel_3 : decode cL_quarrel 3 = .ok (.iload_n 1, 1) := by decide +kernel
theorem dL_quarrel_4 : decode cL_quarrel 4 = .ok (.iload_n 2, 1) := by decide +kernel
theorem dL_quarrel_5 : decode cL_quarrel 5 = .ok (.invokevirtual 52, 3) := by decide +kernel
theorem dL_quarrel_8 : decode cL_quarrel 8 = .ok (.ifCond .eq 7, 3) := by decide +kernel
theorem dL_quarrel_11 : decode cL_quarrel 11 = .ok (.lconst 1, 1) := by decide +kernel
theorem dL_quarrel_12 : decode cL_quarrel 12 = .ok (.goto 4, 3) := by decide +kernel
theorem dL_quarrel_15 : decode cL_quarrel 15 = .ok (.lconst 0, 1) := by decide +kernel
theorem dL_quarrel_16 : decode cL_quarrel 16 = .ok (.lastore, 1) := by decide +kernel
theorem dL_quarrel_17 : decode cL_quarrel 17 = .ok (.goto 11, 3) := by decide +kernel
theorem dL_quarrel_20 : decode cL_quarrel 20 = .ok (.astore 4, 2) := by decide +kernel
theorem dL_quarrel_22 : decode cL_quarrel 22 = .ok (.iconst 1, 1) := by decide +kernel
theorem dL_quarrel_23 : decode cL_quarrel 23 = .ok (.ireturn, 1) := by decide +kernel
theorem dL_quarrel_24 : decode cL_quarrel 24 = .ok (.astore 4, 2) := by decide +kernel
theorem dL_quarrel_26 : decode cL_quarrel 26 = .ok (.iconst 2, 1) := by decide +kernel
theorem dL_quarrel_27 : decode cL_quarrel 27 = .ok (.ireturn, 1) := by decide +kernel
theorem dL_quarrel_28 : decode cL_quarrel 28 = .ok (.iconst 0, 1) := by decide +kernel
theorem dL_quarrel_29 : decode cL_quarrel 29 = .ok (.ireturn, 1) := by decide +kernel
theorem dL_give_0 : decode cL_give 0 = .ok (.aload_n 3, 1) := by decide +kernel
theorem dL_give_1 : decode cL_give 1 = .ok (.iconst 0, 1) := by decide +kernel
theorem dL_give_2 : decode cL_give 2 = .ok (.aload_n 0, 1) := by decide +kernel
theorem dL_give_3 : decode cL_give 3 = .ok (.iload_n 1, 1) := by decide +kernel
theorem dL_give_4 : decode cL_give 4 = .ok (.iload_n 2, 1) := by decide +kernel
theorem dL_give_5 : decode cL_give 5 = .ok (.invokevirtual 55, 3) := by decide +kernel
theorem dL_give_8 : decode cL_give 8 = .ok (.i2l, 1) := by decide +kernel
theorem dL_give_9 : decode cL_give 9 = .ok (.lastore, 1) := by decide +kernel
theorem dL_give_10 : decode cL_give 10 = .ok (.goto 11, 3) := by decide +kernel
theorem dL_give_13 : decode cL_give 13 = .ok (.astore 4, 2) := by decide +kernel
theorem dL_give_15 : decode cL_give 15 = .ok (.iconst 1, 1) := by decide +kernel
theorem dL_give_16 : decode cL_give 16 = .ok (.ireturn, 1) := by decide +kernel
theorem dL_give_17 : decode cL_give 17 = .ok (.astore 4, 2) := by decide +kernel
theorem dL_give_19 : decode cL_give 19 = .ok (.iconst 2, 1) := by decide +kernel
theorem dL_give_20 : decode cL_give 20 = .ok (.ireturn, 1) := by decide +kernel
theorem dL_give_21 : decode cL_give 21 = .ok (.iconst 0, 1) := by decide +kernel
theorem dL_give_22 : decode cL_give 22 = .ok (.ireturn, 1) := by decide +kernel
theorem dL_die_0 : decode cL_die 0 = .ok (.aload_n 2, 1) := by decide +kernel
theorem dL_die_1 : decode cL_die 1 = .ok (.iconst 0, 1) := by decide +kernel
theorem dL_die_2 : decode cL_die 2 = .ok (.aload_n 0, 1) := by decide +kernel
theorem dL_die_3 : decode cL_die 3 = .ok (.iload_n 1, 1) := by decide +kernel
theorem dL_die_4 : decode cL_die 4 = .ok (.invokevirtual 58, 3) := by decide +kernel
theorem dL_die_7 : decode cL_die 7 = .ok (.i2l, 1) := by decide +kernel
theorem dL_die_8 : decode cL_die 8 = .ok (.lastore, 1) := by decide +kernel
theorem dL_die_9 : decode cL_die 9 = .ok (.goto 9, 3) := by decide +kernel
theorem dL_die_12 : decode cL_die 12 = .ok (.astore_n 3, 1) := by decide +kernel
theorem dL_die_13 : decode cL_die 13 = .ok (.iconst 1, 1) := by decide +kernel
theorem dL_die_14 : decode cL_die 14 = .ok (.ireturn, 1) := by decide +kernel
theorem dL_die_15 : decode cL_die 15 = .ok (.astore_n 3, 1) := by decide +kernel
theorem dL_die_16 : decode cL_die 16 = .ok (.iconst 2, 1) := by decide +kernel
theorem dL_die_17 : decode cL_die 17 = .ok (.ireturn, 1) := by decide +kernel
theorem dL_die_18 : decode cL_die 18 = .ok (.iconst 0, 1) := by decide +kernel
theorem dL_die_19 : decode cL_die 19 = .ok (.ireturn, 1) := by decide +kernel
theorem dL_pass_0 : decode cL_pass 0 = .ok (.aload_n 2, 1) := by decide +kernel
theorem dL_pass_1 : decode cL_pass 1 = .ok (.iconst 0, 1) := by decide +kernel
theorem dL_pass_2 : decode cL_pass 2 = .ok (.aload_n 0, 1) := by decide +kernel
theorem dL_pass_3 : decode cL_pass 3 = .ok (.iload_n 1, 1) := by decide +kernel
theorem dL_pass_4 : decode cL_pass 4 = .ok (.invokevirtual 61, 3) := by decide +kernel
theorem dL_pass_7 : decode cL_pass 7 = .ok (.i2l, 1) := by decide +kernel
theorem dL_pass_8 : decode cL_pass 8 = .ok (.lastore, 1) := by decide +kernel
theorem dL_pass_9 : decode cL_pass 9 = .ok (.goto 6, 3) := by decide +kernel
theorem dL_pass_12 : decode cL_pass 12 = .ok (.astore_n 3, 1) := by decide +kernel
theorem dL_pass_13 : decode cL_pass 13 = .ok (.iconst 1, 1) := by decide +kernel
theorem dL_pass_14 : decode cL_pass 14 = .ok (.ireturn, 1) := by decide +kernel
theorem dL_pass_15 : decode cL_pass 15 = .ok (.iconst 0, 1) := by decide +kernel
theorem dL_pass_16 : decode cL_pass 16 = .ok (.ireturn, 1) := by decide +kernel
theorem dL_print_0 : decode cL_print 0 = .ok (.aload_n 2, 1) := by decide +kernel
theorem dL_print_1 : decode cL_print 1 = .ok (.iconst 0, 1) := by decide +kernel
theorem dL_print_2 : decode cL_print 2 = .ok (.aload_n 0, 1) := by decide +kernel
theorem dL_print_3 : decode cL_print 3 = .ok (.iload_n 1, 1) := by decide +kernel
theorem dL_print_4 : decode cL_print 4 = .ok (.invokevirtual 64, 3) := by decide +kernel
theorem dL_print_7 : decode cL_print 7 = .ok (.i2l, 1) := by decide +kernel
theorem dL_print_8 : decode cL_print 8 = .ok (.lastore, 1) := by decide +kernel
theorem dL_print_9 : decode cL_print 9 = .ok (.goto 9, 3) := by decide +kernel
theorem dL_print_12 : decode cL_print 12 = .ok (.astore_n 3, 1) := by decide +kernel
theorem dL_print_13 : decode cL_print 13 = .ok (.iconst 1, 1) := by decide +kernel
theorem dL_print_14 : decode cL_print 14 = .ok (.ireturn, 1) := by decide +kernel
theorem dL_print_15 : decode cL_print 15 = .ok (.astore_n 3, 1) := by decide +kernel
theorem dL_print_16 : decode cL_print 16 = .ok (.iconst 2, 1) := by decide +kernel
theorem dL_print_17 : decode cL_print 17 = .ok (.ireturn, 1) := by decide +kernel
theorem dL_print_18 : decode cL_print 18 = .ok (.iconst 0, 1) := by decide +kernel
theorem dL_print_19 : decode cL_print 19 = .ok (.ireturn, 1) := by decide +kernel
theorem dL_supplement_0 : decode cL_supplement 0 = .ok (.aload_n 1, 1) := by decide +kernel
theorem dL_supplement_1 : decode cL_supplement 1 = .ok (.iconst 0, 1) := by decide +kernel
theorem dL_supplement_2 : decode cL_supplement 2 = .ok (.aload_n 0, 1) := by decide +kernel
theorem dL_supplement_3 : decode cL_supplement 3 = .ok (.invokevirtual 67, 3) := by decide +kernel
theorem dL_supplement_6 : decode cL_supplement 6 = .ok (.i2l, 1) := by decide +kernel
theorem dL_supplement_7 : decode cL_supplement 7 = .ok (.lastore, 1) := by decide +kernel
theorem dL_supplement_8 : decode cL_supplement 8 = .ok (.goto 6, 3) := by decide +kernel
theorem dL_supplement_11 : decode cL_supplement 11 = .ok (.astore_n 2, 1) := by decide +kernel
theorem dL_supplement_12 : decode cL_supplement 12 = .ok (.iconst 1, 1) := by decide +kernel
theorem dL_supplement_13 : decode cL_supplement 13 = .ok (.ireturn, 1) := by decide +kernel
theorem dL_supplement_14 : decode cL_supplement 14 = .ok (.iconst 0, 1) := by decide +kernel
theorem dL_supplement_15 : decode cL_supplement 15 = .ok (.ireturn, 1) := by decide +kernel
theorem dL_at_0 : decode cL_at 0 = .ok (.aload_n 2, 1) := by decide +kernel
theorem dL_at_1 : decode cL_at 1 = .ok (.iconst 0, 1) := by decide +kernel
theorem dL_at_2 : decode cL_at 2 = .ok (.aload_n 0, 1) := by decide +kernel
theorem dL_at_3 : decode cL_at 3 = .ok (.iload_n 1, 1) := by decide +kernel
theorem dL_at_4 : decode cL_at 4 = .ok (.invokevirtual 71, 3) := by decide +kernel
theorem dL_at_7 : decode cL_at 7 = .ok (.i2l, 1) := by decide +kernel
theorem dL_at_8 : decode cL_at 8 = .ok (.lastore, 1) := by decide +kernel
theorem dL_at_9 : decode cL_at 9 = .ok (.goto 6, 3) := by decide +kernel
theorem dL_at_12 : decode cL_at 12 = .ok (.astore_n 3, 1) := by decide +kernel
theorem dL_at_13 : decode cL_at 13 = .ok (.iconst 1, 1) := by decide +kernel
theorem dL_at_14 : decode cL_at 14 = .ok (.ireturn, 1) := by decide +kernel
theorem dL_at_15 : decode cL_at 15 = .ok (.iconst 0, 1) := by decide +kernel
theorem dL_at_16 : decode cL_at 16 = .ok (.ireturn, 1) := by decide +kernel
theorem dL_about_0 : decode cL_about 0 = .ok (.aload_n 3, 1) := by decide +kernel
theorem dL_about_1 : decode cL_about 1 = .ok (.iconst 0, 1) := by decide +kernel
theorem dL_about_2 : decode cL_about 2 = .ok (.aload_n 0, 1) := by decide +kernel
theorem dL_about_3 : decode cL_about 3 = .ok (.iload_n 1, 1) := by decide +kernel
theorem dL_about_4 : decode cL_about 4 = .ok (.iload_n 2, 1) := by decide +kernel
theorem dL_about_5 : decode cL_about 5 = .ok (.invokevirtual 74, 3) := by decide +kernel
theorem dL_about_8 : decode cL_about 8 = .ok (.i2l, 1) := by decide +kernel
theorem dL_about_9 : decode cL_about 9 = .ok (.lastore, 1) := by decide +kernel
theorem dL_about_10 : decode cL_about 10 = .ok (.goto 11, 3) := by decide +kernel
theorem dL_about_13 : decode cL_about 13 = .ok (.astore 4, 2) := by decide +kernel
theorem dL_about_15 : decode cL_about 15 = .ok (.iconst 1, 1) := by decide +kernel
theorem dL_about_16 : decode cL_about 16 = .ok (.ireturn, 1) := by decide +kernel
theorem dL_about_17 : decode cL_about 17 = .ok (.astore 4, 2) := by decide +kernel
theorem dL_about_19 : decode cL_about 19 = .ok (.iconst 2, 1) := by decide +kernel
theorem dL_about_20 : decode cL_about 20 = .ok (.ireturn, 1) := by decide +kernel
theorem dL_about_21 : decode cL_about 21 = .ok (.iconst 0, 1) := by decide +kernel
theorem dL_about_22 : decode cL_about 22 = .ok (.ireturn, 1) := by decide +kernel
theorem dL_errata_0 : decode cL_errata 0 = .ok (.aload_n 2, 1) := by decide +kernel
theorem dL_errata_1 : decode cL_errata 1 = .ok (.iconst 0, 1) := by decide +kernel
theorem dL_errata_2 : decode cL_errata 2 = .ok (.aload_n 0, 1) := by decide +kernel
theorem dL_errata_3 : decode cL_errata 3 = .ok (.iload_n 1, 1) := by decide +kernel
theorem dL_errata_4 : decode cL_errata 4 = .ok (.invokevirtual 77, 3) := by decide +kernel
theorem dL_errata_7 : decode cL_errata 7 = .ok (.i2l, 1) := by decide +kernel
theorem dL_errata_8 : decode cL_errata 8 = .ok (.lastore, 1) := by decide +kernel
theorem dL_errata_9 : decode cL_errata 9 = .ok (.goto 6, 3) := by decide +kernel
theorem dL_errata_12 : decode cL_errata 12 = .ok (.astore_n 3, 1) := by decide +kernel
theorem dL_errata_13 : decode cL_errata 13 = .ok (.iconst 1, 1) := by decide +kernel
theorem dL_errata_14 : decode cL_errata 14 = .ok (.ireturn, 1) := by decide +kernel
theorem dL_errata_15 : decode cL_errata 15 = .ok (.iconst 0, 1) := by decide +kernel
theorem dL_errata_16 : decode cL_errata 16 = .ok (.ireturn, 1) := by decide +kernel
theorem dL_synopsis_0 : decode cL_synopsis 0 = .ok (.aload_n 2, 1) := by decide +kernel
theorem dL_synopsis_1 : decode cL_synopsis 1 = .ok (.iconst 0, 1) := by decide +kernel
theorem dL_synopsis_2 : decode cL_synopsis 2 = .ok (.aload_n 0, 1) := by decide +kernel
theorem dL_synopsis_3 : decode cL_synopsis 3 = .ok (.iload_n 1, 1) := by decide +kernel
theorem dL_synopsis_4 : decode cL_synopsis 4 = .ok (.invokevirtual 80, 3) := by decide +kernel
theorem dL_synopsis_7 : decode cL_synopsis 7 = .ok (.i2l, 1) := by decide +kernel
theorem dL_synopsis_8 : decode cL_synopsis 8 = .ok (.lastore, 1) := by decide +kernel
theorem dL_synopsis_9 : decode cL_synopsis 9 = .ok (.goto 6, 3) := by decide +kernel
theorem dL_synopsis_12 : decode cL_synopsis 12 = .ok (.astore_n 3, 1) := by decide +kernel
theorem dL_synopsis_13 : decode cL_synopsis 13 = .ok (.iconst 1, 1) := by decide +kernel
theorem dL_synopsis_14 : decode cL_synopsis 14 = .ok (.ireturn, 1) := by decide +kernel
theorem dL_synopsis_15 : decode cL_synopsis 15 = .ok (.iconst 0, 1) := by decide +kernel
theorem dL_synopsis_16 : decode cL_synopsis 16 = .ok (.ireturn, 1) := by decide +kernel
