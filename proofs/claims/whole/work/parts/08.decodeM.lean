theorem dX6_thrown_0 : decode cX6_thrown 0 = .ok (.aload_n 0, 1) := by decide +kernel
theorem dX6_thrown_1 : decode cX6_thrown 1 = .ok (.getfield 3, 3) := by decide +kernel
theorem dX6_thrown_4 : decode cX6_thrown 4 = .ok (.ireturn, 1) := by decide +kernel
theorem dX6_in_0 : decode cX6_in 0 = .ok (.iload_n 0, 1) := by decide +kernel
theorem dX6_in_1 : decode cX6_in 1 = .ok (.iload_n 1, 1) := by decide +kernel
theorem dX6_in_2 : decode cX6_in 2 = .ok (.if_icmp .lt 12, 3) := by decide +kernel
theorem dX6_in_5 : decode cX6_in 5 = .ok (.iload_n 0, 1) := by decide +kernel
theorem dX6_in_6 : decode cX6_in 6 = .ok (.iload_n 2, 1) := by decide +kernel
theorem dX6_in_7 : decode cX6_in 7 = .ok (.if_icmp .gt 7, 3) := by decide +kernel
theorem dX6_in_10 : decode cX6_in 10 = .ok (.iconst 1, 1) := by decide +kernel
theorem dX6_in_11 : decode cX6_in 11 = .ok (.goto 4, 3) := by decide +kernel
theorem dX6_in_14 : decode cX6_in 14 = .ok (.iconst 0, 1) := by decide +kernel
theorem dX6_in_15 : decode cX6_in 15 = .ok (.ireturn, 1) := by decide +kernel
theorem dX6_fails_0 : decode cX6_fails 0 = .ok (.aload_n 0, 1) := by decide +kernel
theorem dX6_fails_1 : decode cX6_fails 1 = .ok (.iload_n 1, 1) := by decide +kernel
theorem dX6_fails_2 : decode cX6_fails 2 = .ok (.putfield 3, 3) := by decide +kernel
theorem dX6_fails_5 : decode cX6_fails 5 = .ok (.iconst 0, 1) := by decide +kernel
theorem dX6_fails_6 : decode cX6_fails 6 = .ok (.ireturn, 1) := by decide +kernel
theorem dX6_copies_0 : decode cX6_copies 0 = .ok (.iconst 0, 1) := by decide +kernel
theorem dX6_copies_1 : decode cX6_copies 1 = .ok (.istore 4, 2) := by decide +kernel
theorem dX6_copies_3 : decode cX6_copies 3 = .ok (.iload 4, 2) := by decide +kernel
theorem dX6_copies_5 : decode cX6_copies 5 = .ok (.sipush 166, 3) := by decide +kernel
theorem dX6_copies_8 : decode cX6_copies 8 = .ok (.if_icmp .ge 21, 3) := by decide +kernel
theorem dX6_copies_11 : decode cX6_copies 11 = .ok (.aload_n 2, 1) := by decide +kernel
theorem dX6_copies_12 : decode cX6_copies 12 = .ok (.iload_n 3, 1) := by decide +kernel
theorem dX6_copies_13 : decode cX6_copies 13 = .ok (.iload 4, 2) := by decide +kernel
theorem dX6_copies_15 : decode cX6_copies 15 = .ok (.iadd, 1) := by decide +kernel
theorem dX6_copies_16 : decode cX6_copies 16 = .ok (.aload_n 0, 1) := by decide +kernel
theorem dX6_copies_17 : decode cX6_copies 17 = .ok (.iload_n 1, 1) := by decide +kernel
theorem dX6_copies_18 : decode cX6_copies 18 = .ok (.iload 4, 2) := by decide +kernel
theorem dX6_copies_20 : decode cX6_copies 20 = .ok (.iadd, 1) := by decide +kernel
theorem dX6_copies_21 : decode cX6_copies 21 = .ok (.iaload, 1) := by decide +kernel
theorem dX6_copies_22 : decode cX6_copies 22 = .ok (.iastore, 1) := by decide +kernel
theorem dX6_copies_23 : decode cX6_copies 23 = .ok (.iinc 4 1, 3) := by decide +kernel
theorem dX6_copies_26 : decode cX6_copies 26 = .ok (.goto (-23), 3) := by decide +kernel
theorem dX6_copies_29 : decode cX6_copies 29 = .ok (.return_, 1) := by decide +kernel
theorem dX6_keeps_0 : decode cX6_keeps 0 = .ok (.aload_n 0, 1) := by decide +kernel
theorem dX6_keeps_1 : decode cX6_keeps 1 = .ok (.getfield 13, 3) := by decide +kernel
theorem dX6_keeps_4 : decode cX6_keeps 4 = .ok (.iconst 0, 1) := by decide +kernel
theorem dX6_keeps_5 : decode cX6_keeps 5 = .ok (.aload_n 0, 1) := by decide +kernel
theorem dX6_keeps_6 : decode cX6_keeps 6 = .ok (.getfield 17, 3) := by decide +kernel
theorem dX6_keeps_9 : decode cX6_keeps 9 = .ok (.iconst 0, 1) := by decide +kernel
theorem dX6_keeps_10 : decode cX6_keeps 10 = .ok (.invokestatic 84, 3) := by decide +kernel
theorem dX6_keeps_13 : decode cX6_keeps 13 = .ok (.return_, 1) := by decide +kernel
theorem dX6_changes_0 : decode cX6_changes 0 = .ok (.aload_n 0, 1) := by decide +kernel
theorem dX6_changes_1 : decode cX6_changes 1 = .ok (.getfield 26, 3) := by decide +kernel
theorem dX6_changes_4 : decode cX6_changes 4 = .ok (.bipush 8, 2) := by decide +kernel
theorem dX6_changes_6 : decode cX6_changes 6 = .ok (.if_icmp .ne 50, 3) := by decide +kernel
theorem dX6_changes_9 : decode cX6_changes 9 = .ok (.iconst 1, 1) := by decide +kernel
theorem dX6_changes_10 : decode cX6_changes 10 = .ok (.istore_n 1, 1) := by decide +kernel
theorem dX6_changes_11 : decode cX6_changes 11 = .ok (.iload_n 1, 1) := by decide +kernel
theorem dX6_changes_12 : decode cX6_changes 12 = .ok (.bipush 8, 2) := by decide +kernel
theorem dX6_changes_14 : decode cX6_changes 14 = .ok (.if_icmp .ge 32, 3) := by decide +kernel
theorem dX6_changes_17 : decode cX6_changes 17 = .ok (.aload_n 0, 1) := by decide +kernel
theorem dX6_changes_18 : decode cX6_changes 18 = .ok (.getfield 23, 3) := by decide +kernel
theorem dX6_changes_21 : decode cX6_changes 21 = .ok (.sipush 166, 3) := by decide +kernel
theorem dX6_changes_24 : decode cX6_changes 24 = .ok (.iload_n 1, 1) := by decide +kernel
theorem dX6_changes_25 : decode cX6_changes 25 = .ok (.imul, 1) := by decide +kernel
theorem dX6_changes_26 : decode cX6_changes 26 = .ok (.aload_n 0, 1) := by decide +kernel
theorem dX6_changes_27 : decode cX6_changes 27 = .ok (.getfield 23, 3) := by decide +kernel
theorem dX6_changes_30 : decode cX6_changes 30 = .ok (.sipush 166, 3) := by decide +kernel
theorem dX6_changes_33 : decode cX6_changes 33 = .ok (.iload_n 1, 1) := by decide +kernel
theorem dX6_changes_34 : decode cX6_changes 34 = .ok (.iconst 1, 1) := by decide +kernel
theorem dX6_changes_35 : decode cX6_changes 35 = .ok (.isub, 1) := by decide +kernel
theorem dX6_changes_36 : decode cX6_changes 36 = .ok (.imul, 1) := by decide +kernel
theorem dX6_changes_37 : decode cX6_changes 37 = .ok (.invokestatic 84, 3) := by decide +kernel
theorem dX6_changes_40 : decode cX6_changes 40 = .ok (.iinc 1 1, 3) := by decide +kernel
theorem dX6_changes_43 : decode cX6_changes 43 = .ok (.goto (-32), 3) := by decide +kernel
theorem dX6_changes_46 : decode cX6_changes 46 = .ok (.aload_n 0, 1) := by decide +kernel
theorem dX6_changes_47 : decode cX6_changes 47 = .ok (.dup, 1) := by decide +kernel
theorem dX6_changes_48 : decode cX6_changes 48 = .ok (.getfield 26, 3) := by decide +kernel
theorem dX6_changes_51 : decode cX6_changes 51 = .ok (.iconst 1, 1) := by decide +kernel
theorem dX6_changes_52 : decode cX6_changes 52 = .ok (.isub, 1) := by decide +kernel
theorem dX6_changes_53 : decode cX6_changes 53 = .ok (.putfield 26, 3) := by decide +kernel
theorem dX6_changes_56 : decode cX6_changes 56 = .ok (.aload_n 0, 1) := by decide +kernel
theorem dX6_changes_57 : decode cX6_changes 57 = .ok (.getfield 17, 3) := by decide +kernel
theorem dX6_changes_60 : decode cX6_changes 60 = .ok (.iconst 0, 1) := by decide +kernel
theorem dX6_changes_61 : decode cX6_changes 61 = .ok (.aload_n 0, 1) := by decide +kernel
theorem dX6_changes_62 : decode cX6_changes 62 = .ok (.getfield 23, 3) := by decide +kernel
theorem dX6_changes_65 : decode cX6_changes 65 = .ok (.sipush 166, 3) := by decide +kernel
theorem dX6_changes_68 : decode cX6_changes 68 = .ok (.aload_n 0, 1) := by decide +kernel
theorem dX6_changes_69 : decode cX6_changes 69 = .ok (.getfield 26, 3) := by decide +kernel
theorem dX6_changes_72 : decode cX6_changes 72 = .ok (.imul, 1) := by decide +kernel
theorem dX6_changes_73 : decode cX6_changes 73 = .ok (.invokestatic 84, 3) := by decide +kernel
theorem dX6_changes_76 : decode cX6_changes 76 = .ok (.aload_n 0, 1) := by decide +kernel
theorem dX6_changes_77 : decode cX6_changes 77 = .ok (.dup, 1) := by decide +kernel
theorem dX6_changes_78 : decode cX6_changes 78 = .ok (.getfield 26, 3) := by decide +kernel
theorem dX6_changes_81 : decode cX6_changes 81 = .ok (.iconst 1, 1) := by decide +kernel
theorem dX6_changes_82 : decode cX6_changes 82 = .ok (.iadd, 1) := by decide +kernel
theorem dX6_changes_83 : decode cX6_changes 83 = .ok (.putfield 26, 3) := by decide +kernel
theorem dX6_changes_86 : decode cX6_changes 86 = .ok (.return_, 1) := by decide +kernel
theorem dX6_of_0 : decode cX6_of 0 = .ok (.aload_n 0, 1) := by decide +kernel
theorem dX6_of_1 : decode cX6_of 1 = .ok (.getfield 13, 3) := by decide +kernel
theorem dX6_of_4 : decode cX6_of 4 = .ok (.iconst 2, 1) := by decide +kernel
theorem dX6_of_5 : decode cX6_of 5 = .ok (.bipush 9, 2) := by decide +kernel
theorem dX6_of_7 : decode cX6_of 7 = .ok (.iload_n 1, 1) := by decide +kernel
theorem dX6_of_8 : decode cX6_of 8 = .ok (.imul, 1) := by decide +kernel
theorem dX6_of_9 : decode cX6_of 9 = .ok (.iadd, 1) := by decide +kernel
theorem dX6_of_10 : decode cX6_of 10 = .ok (.iload_n 2, 1) := by decide +kernel
theorem dX6_of_11 : decode cX6_of 11 = .ok (.iadd, 1) := by decide +kernel
theorem dX6_of_12 : decode cX6_of 12 = .ok (.iaload, 1) := by decide +kernel
theorem dX6_of_13 : decode cX6_of 13 = .ok (.ireturn, 1) := by decide +kernel
theorem dX6_ad_0 : decode cX6_ad 0 = .ok (.aload_n 0, 1) := by decide +kernel
theorem dX6_ad_1 : decode cX6_ad 1 = .ok (.getfield 13, 3) := by decide +kernel
theorem dX6_ad_4 : decode cX6_ad 4 = .ok (.bipush 110, 2) := by decide +kernel
theorem dX6_ad_6 : decode cX6_ad 6 = .ok (.bipush 7, 2) := by decide +kernel
theorem dX6_ad_8 : decode cX6_ad 8 = .ok (.iload_n 1, 1) := by decide +kernel
theorem dX6_ad_9 : decode cX6_ad 9 = .ok (.imul, 1) := by decide +kernel
theorem dX6_ad_10 : decode cX6_ad 10 = .ok (.iadd, 1) := by decide +kernel
theorem dX6_ad_11 : decode cX6_ad 11 = .ok (.iload_n 2, 1) := by decide +kernel
theorem dX6_ad_12 : decode cX6_ad 12 = .ok (.iadd, 1) := by decide +kernel
theorem dX6_ad_13 : decode cX6_ad 13 = .ok (.iaload, 1) := by decide +kernel
theorem dX6_ad_14 : decode cX6_ad 14 = .ok (.ireturn, 1) := by decide +kernel
theorem dX6_isStory_0 : decode cX6_isStory 0 = .ok (.iload_n 1, 1) := by decide +kernel
theorem dX6_isStory_1 : decode cX6_isStory 1 = .ok (.iconst 0, 1) := by decide +kernel
theorem dX6_isStory_2 : decode cX6_isStory 2 = .ok (.bipush 11, 2) := by decide +kernel
theorem dX6_isStory_4 : decode cX6_isStory 4 = .ok (.invokestatic 88, 3) := by decide +kernel
theorem dX6_isStory_7 : decode cX6_isStory 7 = .ok (.ifCond .eq 17, 3) := by decide +kernel
theorem dX6_isStory_10 : decode cX6_isStory 10 = .ok (.aload_n 0, 1) := by decide +kernel
theorem dX6_isStory_11 : decode cX6_isStory 11 = .ok (.iload_n 1, 1) := by decide +kernel
theorem dX6_isStory_12 : decode cX6_isStory 12 = .ok (.iconst 0, 1) := by decide +kernel
theorem dX6_isStory_13 : decode cX6_isStory 13 = .ok (.invokevirtual 92, 3) := by decide +kernel
theorem dX6_isStory_16 : decode cX6_isStory 16 = .ok (.iconst 1, 1) := by decide +kernel
theorem dX6_isStory_17 : decode cX6_isStory 17 = .ok (.if_icmp .ne 7, 3) := by decide +kernel
theorem dX6_isStory_20 : decode cX6_isStory 20 = .ok (.iconst 1, 1) := by decide +kernel
theorem dX6_isStory_21 : decode cX6_isStory 21 = .ok (.goto 4, 3) := by decide +kernel
theorem dX6_isStory_24 : decode cX6_isStory 24 = .ok (.iconst 0, 1) := by decide +kernel
theorem dX6_isStory_25 : decode cX6_isStory 25 = .ok (.ireturn, 1) := by decide +kernel
theorem dX6_isAd_0 : decode cX6_isAd 0 = .ok (.iload_n 1, 1) := by decide +kernel
theorem dX6_isAd_1 : decode cX6_isAd 1 = .ok (.iconst 0, 1) := by decide +kernel
theorem dX6_isAd_2 : decode cX6_isAd 2 = .ok (.bipush 7, 2) := by decide +kernel
theorem dX6_isAd_4 : decode cX6_isAd 4 = .ok (.invokestatic 88, 3) := by decide +kernel
theorem dX6_isAd_7 : decode cX6_isAd 7 = .ok (.ifCond .eq 17, 3) := by decide +kernel
theorem dX6_isAd_10 : decode cX6_isAd 10 = .ok (.aload_n 0, 1) := by decide +kernel
theorem dX6_isAd_11 : decode cX6_isAd 11 = .ok (.iload_n 1, 1) := by decide +kernel
theorem dX6_isAd_12 : decode cX6_isAd 12 = .ok (.iconst 0, 1) := by decide +kernel
theorem dX6_isAd_13 : decode cX6_isAd 13 = .ok (.invokevirtual 96, 3) := by decide +kernel
theorem dX6_isAd_16 : decode cX6_isAd 16 = .ok (.iconst 1, 1) := by decide +kernel
theorem dX6_isAd_17 : decode cX6_isAd 17 = .ok (.if_icmp .ne 7, 3) := by decide +kernel
theorem dX6_isAd_20 : decode cX6_isAd 20 = .ok (.iconst 1, 1) := by decide +kernel
theorem dX6_isAd_21 : decode cX6_isAd 21 = .ok (.goto 4, 3) := by decide +kernel
theorem dX6_isAd_24 : decode cX6_isAd 24 = .ok (.iconst 0, 1) := by decide +kernel
theorem dX6_isAd_25 : decode cX6_isAd 25 = .ok (.ireturn, 1) := by decide +kernel
theorem dX6_hits_0 : decode cX6_hits 0 = .ok (.iconst 0, 1) := by decide +kernel
theorem dX6_hits_1 : decode cX6_hits 1 = .ok (.istore 6, 2) := by decide +kernel
theorem dX6_hits_3 : decode cX6_hits 3 = .ok (.iload 6, 2) := by decide +kernel
theorem dX6_hits_5 : decode cX6_hits 5 = .ok (.bipush 8, 2) := by decide +kernel
theorem dX6_hits_7 : decode cX6_hits 7 = .ok (.if_icmp .ge 113, 3) := by decide +kernel
theorem dX6_hits_10 : decode cX6_hits 10 = .ok (.aload_n 0, 1) := by decide +kernel
theorem dX6_hits_11 : decode cX6_hits 11 = .ok (.iload 6, 2) := by decide +kernel
theorem dX6_hits_13 : decode cX6_hits 13 = .ok (.iconst 0, 1) := by decide +kernel
theorem dX6_hits_14 : decode cX6_hits 14 = .ok (.invokevirtual 96, 3) := by decide +kernel
theorem dX6_hits_17 : decode cX6_hits 17 = .ok (.ifCond .eq 97, 3) := by decide +kernel
theorem dX6_hits_20 : decode cX6_hits 20 = .ok (.aload_n 0, 1) := by decide +kernel
theorem dX6_hits_21 : decode cX6_hits 21 = .ok (.iload 6, 2) := by decide +kernel
theorem dX6_hits_23 : decode cX6_hits 23 = .ok (.iconst 1, 1) := by decide +kernel
theorem dX6_hits_24 : decode cX6_hits 24 = .ok (.invokevirtual 96, 3) := by decide +kernel
theorem dX6_hits_27 : decode cX6_hits 27 = .ok (.iload_n 1, 1) := by decide +kernel
theorem dX6_hits_28 : decode cX6_hits 28 = .ok (.if_icmp .eq 6, 3) := by decide +kernel
theorem dX6_hits_31 : decode cX6_hits 31 = .ok (.goto 83, 3) := by decide +kernel
theorem dX6_hits_34 : decode cX6_hits 34 = .ok (.iload_n 2, 1) := by decide +kernel
theorem dX6_hits_35 : decode cX6_hits 35 = .ok (.iload 4, 2) := by decide +kernel
theorem dX6_hits_37 : decode cX6_hits 37 = .ok (.iadd, 1) := by decide +kernel
theorem dX6_hits_38 : decode cX6_hits 38 = .ok (.aload_n 0, 1) := by decide +kernel
theorem dX6_hits_39 : decode cX6_hits 39 = .ok (.iload 6, 2) := by decide +kernel
theorem dX6_hits_41 : decode cX6_hits 41 = .ok (.iconst 2, 1) := by decide +kernel
theorem dX6_hits_42 : decode cX6_hits 42 = .ok (.invokevirtual 96, 3) := by decide +kernel
theorem dX6_hits_45 : decode cX6_hits 45 = .ok (.if_icmp .le 22, 3) := by decide +kernel
theorem dX6_hits_48 : decode cX6_hits 48 = .ok (.aload_n 0, 1) := by decide +kernel
theorem dX6_hits_49 : decode cX6_hits 49 = .ok (.iload 6, 2) := by decide +kernel
theorem dX6_hits_51 : decode cX6_hits 51 = .ok (.iconst 2, 1) := by decide +kernel
theorem dX6_hits_52 : decode cX6_hits 52 = .ok (.invokevirtual 96, 3) := by decide +kernel
theorem dX6_hits_55 : decode cX6_hits 55 = .ok (.aload_n 0, 1) := by decide +kernel
theorem dX6_hits_56 : decode cX6_hits 56 = .ok (.iload 6, 2) := by decide +kernel
theorem dX6_hits_58 : decode cX6_hits 58 = .ok (.iconst 4, 1) := by decide +kernel
theorem dX6_hits_59 : decode cX6_hits 59 = .ok (.invokevirtual 96, 3) := by decide +kernel
theorem dX6_hits_62 : decode cX6_hits 62 = .ok (.iadd, 1) := by decide +kernel
theorem dX6_hits_63 : decode cX6_hits 63 = .ok (.iload_n 2, 1) := by decide +kernel
theorem dX6_hits_64 : decode cX6_hits 64 = .ok (.if_icmp .gt 7, 3) := by decide +kernel
theorem dX6_hits_67 : decode cX6_hits 67 = .ok (.iconst 1, 1) := by decide +kernel
theorem dX6_hits_68 : decode cX6_hits 68 = .ok (.goto 4, 3) := by decide +kernel
theorem dX6_hits_71 : decode cX6_hits 71 = .ok (.iconst 0, 1) := by decide +kernel
theorem dX6_hits_72 : decode cX6_hits 72 = .ok (.istore 7, 2) := by decide +kernel
theorem dX6_hits_74 : decode cX6_hits 74 = .ok (.iload 7, 2) := by decide +kernel
theorem dX6_hits_76 : decode cX6_hits 76 = .ok (.ifCond .ne 38, 3) := by decide +kernel
theorem dX6_hits_79 : decode cX6_hits 79 = .ok (.iload_n 3, 1) := by decide +kernel
theorem dX6_hits_80 : decode cX6_hits 80 = .ok (.aload_n 0, 1) := by decide +kernel
theorem dX6_hits_81 : decode cX6_hits 81 = .ok (.iload 6, 2) := by decide +kernel
theorem dX6_hits_83 : decode cX6_hits 83 = .ok (.iconst 3, 1) := by decide +kernel
theorem dX6_hits_84 : decode cX6_hits 84 = .ok (.invokevirtual 96, 3) := by decide +kernel
theorem dX6_hits_87 : decode cX6_hits 87 = .ok (.aload_n 0, 1) := by decide +kernel
theorem dX6_hits_88 : decode cX6_hits 88 = .ok (.iload 6, 2) := by decide +kernel
theorem dX6_hits_90 : decode cX6_hits 90 = .ok (.iconst 5, 1) := by decide +kernel
theorem dX6_hits_91 : decode cX6_hits 91 = .ok (.invokevirtual 96, 3) := by decide +kernel
theorem dX6_hits_94 : decode cX6_hits 94 = .ok (.iadd, 1) := by decide +kernel
theorem dX6_hits_95 : decode cX6_hits 95 = .ok (.if_icmp .ge 19, 3) := by decide +kernel
theorem dX6_hits_98 : decode cX6_hits 98 = .ok (.aload_n 0, 1) := by decide +kernel
theorem dX6_hits_99 : decode cX6_hits 99 = .ok (.iload 6, 2) := by decide +kernel
theorem dX6_hits_101 : decode cX6_hits 101 = .ok (.iconst 3, 1) := by decide +kernel
theorem dX6_hits_102 : decode cX6_hits 102 = .ok (.invokevirtual 96, 3) := by decide +kernel
theorem dX6_hits_105 : decode cX6_hits 105 = .ok (.iload_n 3, 1) := by decide +kernel
theorem dX6_hits_106 : decode cX6_hits 106 = .ok (.iload 5, 2) := by decide +kernel
theorem dX6_hits_108 : decode cX6_hits 108 = .ok (.iadd, 1) := by decide +kernel
theorem dX6_hits_109 : decode cX6_hits 109 = .ok (.if_icmp .ge 5, 3) := by decide +kernel
theorem dX6_hits_112 : decode cX6_hits 112 = .ok (.iconst 1, 1) := by decide +kernel
theorem dX6_hits_113 : decode cX6_hits 113 = .ok (.ireturn, 1) := by decide +kernel
theorem dX6_hits_114 : decode cX6_hits 114 = .ok (.iinc 6 1, 3) := by decide +kernel
theorem dX6_hits_117 : decode cX6_hits 117 = .ok (.goto (-114), 3) := by decide +kernel
theorem dX6_hits_120 : decode cX6_hits 120 = .ok (.iconst 0, 1) := by decide +kernel
theorem dX6_hits_121 : decode cX6_hits 121 = .ok (.ireturn, 1) := by decide +kernel
theorem dX6_laysAd_0 : decode cX6_laysAd 0 = .ok (.iload_n 1, 1) := by decide +kernel
theorem dX6_laysAd_1 : decode cX6_laysAd 1 = .ok (.iconst 0, 1) := by decide +kernel
theorem dX6_laysAd_2 : decode cX6_laysAd 2 = .ok (.iconst 3, 1) := by decide +kernel
theorem dX6_laysAd_3 : decode cX6_laysAd 3 = .ok (.invokestatic 88, 3) := by decide +kernel
theorem dX6_laysAd_6 : decode cX6_laysAd 6 = .ok (.ifCond .eq 51, 3) := by decide +kernel
theorem dX6_laysAd_9 : decode cX6_laysAd 9 = .ok (.iload_n 2, 1) := by decide +kernel
theorem dX6_laysAd_10 : decode cX6_laysAd 10 = .ok (.iconst 0, 1) := by decide +kernel
theorem dX6_laysAd_11 : decode cX6_laysAd 11 = .ok (.iconst 4, 1) := by decide +kernel
theorem dX6_laysAd_12 : decode cX6_laysAd 12 = .ok (.invokestatic 88, 3) := by decide +kernel
theorem dX6_laysAd_15 : decode cX6_laysAd 15 = .ok (.ifCond .eq 42, 3) := by decide +kernel
theorem dX6_laysAd_18 : decode cX6_laysAd 18 = .ok (.iload_n 3, 1) := by decide +kernel
theorem dX6_laysAd_19 : decode cX6_laysAd 19 = .ok (.iconst 0, 1) := by decide +kernel
theorem dX6_laysAd_20 : decode cX6_laysAd 20 = .ok (.bipush 23, 2) := by decide +kernel
theorem dX6_laysAd_22 : decode cX6_laysAd 22 = .ok (.invokestatic 88, 3) := by decide +kernel
theorem dX6_laysAd_25 : decode cX6_laysAd 25 = .ok (.ifCond .eq 32, 3) := by decide +kernel
theorem dX6_laysAd_28 : decode cX6_laysAd 28 = .ok (.iload 4, 2) := by decide +kernel
theorem dX6_laysAd_30 : decode cX6_laysAd 30 = .ok (.iconst 1, 1) := by decide +kernel
theorem dX6_laysAd_31 : decode cX6_laysAd 31 = .ok (.iconst 5, 1) := by decide +kernel
theorem dX6_laysAd_32 : decode cX6_laysAd 32 = .ok (.iload_n 2, 1) := by decide +kernel
theorem dX6_laysAd_33 : decode cX6_laysAd 33 = .ok (.isub, 1) := by decide +kernel
theorem dX6_laysAd_34 : decode cX6_laysAd 34 = .ok (.invokestatic 88, 3) := by decide +kernel
theorem dX6_laysAd_37 : decode cX6_laysAd 37 = .ok (.ifCond .eq 20, 3) := by decide +kernel
theorem dX6_laysAd_40 : decode cX6_laysAd 40 = .ok (.iload 5, 2) := by decide +kernel
theorem dX6_laysAd_42 : decode cX6_laysAd 42 = .ok (.iconst 1, 1) := by decide +kernel
theorem dX6_laysAd_43 : decode cX6_laysAd 43 = .ok (.bipush 24, 2) := by decide +kernel
theorem dX6_laysAd_45 : decode cX6_laysAd 45 = .ok (.iload_n 3, 1) := by decide +kernel
theorem dX6_laysAd_46 : decode cX6_laysAd 46 = .ok (.isub, 1) := by decide +kernel
theorem dX6_laysAd_47 : decode cX6_laysAd 47 = .ok (.invokestatic 88, 3) := by decide +kernel
theorem dX6_laysAd_50 : decode cX6_laysAd 50 = .ok (.ifCond .eq 7, 3) := by decide +kernel
theorem dX6_laysAd_53 : decode cX6_laysAd 53 = .ok (.iconst 1, 1) := by decide +kernel
theorem dX6_laysAd_54 : decode cX6_laysAd 54 = .ok (.goto 4, 3) := by decide +kernel
theorem dX6_laysAd_57 : decode cX6_laysAd 57 = .ok (.iconst 0, 1) := by decide +kernel
theorem dX6_laysAd_58 : decode cX6_laysAd 58 = .ok (.istore 7, 2) := by decide +kernel
theorem dX6_laysAd_60 : decode cX6_laysAd 60 = .ok (.iload 7, 2) := by decide +kernel
theorem dX6_laysAd_62 : decode cX6_laysAd 62 = .ok (.ifCond .ne 9, 3) := by decide +kernel
theorem dX6_laysAd_65 : decode cX6_laysAd 65 = .ok (.aload_n 0, 1) := by decide +kernel
theorem dX6_laysAd_66 : decode cX6_laysAd 66 = .ok (.iconst 1, 1) := by decide +kernel
theorem dX6_laysAd_67 : decode cX6_laysAd 67 = .ok (.invokevirtual 99, 3) := by decide +kernel
theorem dX6_laysAd_70 : decode cX6_laysAd 70 = .ok (.ireturn, 1) := by decide +kernel
theorem dX6_laysAd_71 : decode cX6_laysAd 71 = .ok (.iload 6, 2) := by decide +kernel
theorem dX6_laysAd_73 : decode cX6_laysAd 73 = .ok (.iconst 1, 1) := by decide +kernel
theorem dX6_laysAd_74 : decode cX6_laysAd 74 = .ok (.sipush 999, 3) := by decide +kernel
theorem dX6_laysAd_77 : decode cX6_laysAd 77 = .ok (.invokestatic 88, 3) := by decide +kernel
theorem dX6_laysAd_80 : decode cX6_laysAd 80 = .ok (.ifCond .ne 9, 3) := by decide +kernel
theorem dX6_laysAd_83 : decode cX6_laysAd 83 = .ok (.aload_n 0, 1) := by decide +kernel
theorem dX6_laysAd_84 : decode cX6_laysAd 84 = .ok (.iconst 2, 1) := by decide +kernel
theorem dX6_laysAd_85 : decode cX6_laysAd 85 = .ok (.invokevirtual 99, 3) := by decide +kernel
theorem dX6_laysAd_88 : decode cX6_laysAd 88 = .ok (.ireturn, 1) := by decide +kernel
theorem dX6_laysAd_89 : decode cX6_laysAd 89 = .ok (.aload_n 0, 1) := by decide +kernel
theorem dX6_laysAd_90 : decode cX6_laysAd 90 = .ok (.getfield 13, 3) := by decide +kernel
theorem dX6_laysAd_93 : decode cX6_laysAd 93 = .ok (.iconst 1, 1) := by decide +kernel
theorem dX6_laysAd_94 : decode cX6_laysAd 94 = .ok (.iaload, 1) := by decide +kernel
theorem dX6_laysAd_95 : decode cX6_laysAd 95 = .ok (.istore 8, 2) := by decide +kernel
theorem dX6_laysAd_97 : decode cX6_laysAd 97 = .ok (.iload 8, 2) := by decide +kernel
theorem dX6_laysAd_99 : decode cX6_laysAd 99 = .ok (.bipush 8, 2) := by decide +kernel
theorem dX6_laysAd_101 : decode cX6_laysAd 101 = .ok (.if_icmp .eq 17, 3) := by decide +kernel
theorem dX6_laysAd_104 : decode cX6_laysAd 104 = .ok (.aload_n 0, 1) := by decide +kernel
theorem dX6_laysAd_105 : decode cX6_laysAd 105 = .ok (.iload_n 1, 1) := by decide +kernel
theorem dX6_laysAd_106 : decode cX6_laysAd 106 = .ok (.iload_n 2, 1) := by decide +kernel
theorem dX6_laysAd_107 : decode cX6_laysAd 107 = .ok (.iload_n 3, 1) := by decide +kernel
theorem dX6_laysAd_108 : decode cX6_laysAd 108 = .ok (.iload 4, 2) := by decide +kernel
theorem dX6_laysAd_110 : decode cX6_laysAd 110 = .ok (.iload 5, 2) := by decide +kernel
theorem dX6_laysAd_112 : decode cX6_laysAd 112 = .ok (.invokevirtual 103, 3) := by decide +kernel
theorem dX6_laysAd_115 : decode cX6_laysAd 115 = .ok (.ifCond .eq 9, 3) := by decide +kernel
theorem dX6_laysAd_118 : decode cX6_laysAd 118 = .ok (.aload_n 0, 1) := by decide +kernel
theorem dX6_laysAd_119 : decode cX6_laysAd 119 = .ok (.iconst 3, 1) := by decide +kernel
theorem dX6_laysAd_120 : decode cX6_laysAd 120 = .ok (.invokevirtual 99, 3) := by decide +kernel
theorem dX6_laysAd_123 : decode cX6_laysAd 123 = .ok (.ireturn, 1) := by decide +kernel
theorem dX6_laysAd_124 : decode cX6_laysAd 124 = .ok (.bipush 110, 2) := by decide +kernel
theorem dX6_laysAd_126 : decode cX6_laysAd 126 = .ok (.bipush 7, 2) := by decide +kernel
theorem dX6_laysAd_128 : decode cX6_laysAd 128 = .ok (.iload 8, 2) := by decide +kernel
theorem dX6_laysAd_130 : decode cX6_laysAd 130 = .ok (.imul, 1) := by decide +kernel
theorem dX6_laysAd_131 : decode cX6_laysAd 131 = .ok (.iadd, 1) := by decide +kernel
theorem dX6_laysAd_132 : decode cX6_laysAd 132 = .ok (.istore 9, 2) := by decide +kernel
theorem dX6_laysAd_134 : decode cX6_laysAd 134 = .ok (.aload_n 0, 1) := by decide +kernel
theorem dX6_laysAd_135 : decode cX6_laysAd 135 = .ok (.getfield 13, 3) := by decide +kernel
theorem dX6_laysAd_138 : decode cX6_laysAd 138 = .ok (.iload 9, 2) := by decide +kernel
theorem dX6_laysAd_140 : decode cX6_laysAd 140 = .ok (.iconst 1, 1) := by decide +kernel
theorem dX6_laysAd_141 : decode cX6_laysAd 141 = .ok (.iastore, 1) := by decide +kernel
theorem dX6_laysAd_142 : decode cX6_laysAd 142 = .ok (.aload_n 0, 1) := by decide +kernel
theorem dX6_laysAd_143 : decode cX6_laysAd 143 = .ok (.getfield 13, 3) := by decide +kernel
theorem dX6_laysAd_146 : decode cX6_laysAd 146 = .ok (.iload 9, 2) := by decide +kernel
theorem dX6_laysAd_148 : decode cX6_laysAd 148 = .ok (.iconst 1, 1) := by decide +kernel
theorem dX6_laysAd_149 : decode cX6_laysAd 149 = .ok (.iadd, 1) := by decide +kernel
theorem dX6_laysAd_150 : decode cX6_laysAd 150 = .ok (.iload_n 1, 1) := by decide +kernel
theorem dX6_laysAd_151 : decode cX6_laysAd 151 = .ok (.iastore, 1) := by decide +kernel
theorem dX6_laysAd_152 : decode cX6_laysAd 152 = .ok (.aload_n 0, 1) := by decide +kernel
theorem dX6_laysAd_153 : decode cX6_laysAd 153 = .ok (.getfield 13, 3) := by decide +kernel
theorem dX6_laysAd_156 : decode cX6_laysAd 156 = .ok (.iload 9, 2) := by decide +kernel
theorem dX6_laysAd_158 : decode cX6_laysAd 158 = .ok (.iconst 2, 1) := by decide +kernel
theorem dX6_laysAd_159 : decode cX6_laysAd 159 = .ok (.iadd, 1) := by decide +kernel
theorem dX6_laysAd_160 : decode cX6_laysAd 160 = .ok (.iload_n 2, 1) := by decide +kernel
theorem dX6_laysAd_161 : decode cX6_laysAd 161 = .ok (.iastore, 1) := by decide +kernel
theorem dX6_laysAd_162 : decode cX6_laysAd 162 = .ok (.aload_n 0, 1) := by decide +kernel
theorem dX6_laysAd_163 : decode cX6_laysAd 163 = .ok (.getfield 13, 3) := by decide +kernel
theorem dX6_laysAd_166 : decode cX6_laysAd 166 = .ok (.iload 9, 2) := by decide +kernel
theorem dX6_laysAd_168 : decode cX6_laysAd 168 = .ok (.iconst 3, 1) := by decide +kernel
theorem dX6_laysAd_169 : decode cX6_laysAd 169 = .ok (.iadd, 1) := by decide +kernel
theorem dX6_laysAd_170 : decode cX6_laysAd 170 = .ok (.iload_n 3, 1) := by decide +kernel
theorem dX6_laysAd_171 : decode cX6_laysAd 171 = .ok (.iastore, 1) := by decide +kernel
theorem dX6_laysAd_172 : decode cX6_laysAd 172 = .ok (.aload_n 0, 1) := by decide +kernel
theorem dX6_laysAd_173 : decode cX6_laysAd 173 = .ok (.getfield 13, 3) := by decide +kernel
theorem dX6_laysAd_176 : decode cX6_laysAd 176 = .ok (.iload 9, 2) := by decide +kernel
theorem dX6_laysAd_178 : decode cX6_laysAd 178 = .ok (.iconst 4, 1) := by decide +kernel
theorem dX6_laysAd_179 : decode cX6_laysAd 179 = .ok (.iadd, 1) := by decide +kernel
theorem dX6_laysAd_180 : decode cX6_laysAd 180 = .ok (.iload 4, 2) := by decide +kernel
theorem dX6_laysAd_182 : decode cX6_laysAd 182 = .ok (.iastore, 1) := by decide +kernel
theorem dX6_laysAd_183 : decode cX6_laysAd 183 = .ok (.aload_n 0, 1) := by decide +kernel
theorem dX6_laysAd_184 : decode cX6_laysAd 184 = .ok (.getfield 13, 3) := by decide +kernel
theorem dX6_laysAd_187 : decode cX6_laysAd 187 = .ok (.iload 9, 2) := by decide +kernel
theorem dX6_laysAd_189 : decode cX6_laysAd 189 = .ok (.iconst 5, 1) := by decide +kernel
theorem dX6_laysAd_190 : decode cX6_laysAd 190 = .ok (.iadd, 1) := by decide +kernel
theorem dX6_laysAd_191 : decode cX6_laysAd 191 = .ok (.iload 5, 2) := by decide +kernel
theorem dX6_laysAd_193 : decode cX6_laysAd 193 = .ok (.iastore, 1) := by decide +kernel
theorem dX6_laysAd_194 : decode cX6_laysAd 194 = .ok (.aload_n 0, 1) := by decide +kernel
theorem dX6_laysAd_195 : decode cX6_laysAd 195 = .ok (.getfield 13, 3) := by decide +kernel
theorem dX6_laysAd_198 : decode cX6_laysAd 198 = .ok (.iload 9, 2) := by decide +kernel
theorem dX6_laysAd_200 : decode cX6_laysAd 200 = .ok (.bipush 6, 2) := by decide +kernel
theorem dX6_laysAd_202 : decode cX6_laysAd 202 = .ok (.iadd, 1) := by decide +kernel
theorem dX6_laysAd_203 : decode cX6_laysAd 203 = .ok (.iload 6, 2) := by decide +kernel
theorem dX6_laysAd_205 : decode cX6_laysAd 205 = .ok (.iastore, 1) := by decide +kernel
theorem dX6_laysAd_206 : decode cX6_laysAd 206 = .ok (.aload_n 0, 1) := by decide +kernel
theorem dX6_laysAd_207 : decode cX6_laysAd 207 = .ok (.getfield 13, 3) := by decide +kernel
theorem dX6_laysAd_210 : decode cX6_laysAd 210 = .ok (.iconst 1, 1) := by decide +kernel
theorem dX6_laysAd_211 : decode cX6_laysAd 211 = .ok (.dup2, 1) := by decide +kernel
theorem dX6_laysAd_212 : decode cX6_laysAd 212 = .ok (.iaload, 1) := by decide +kernel
theorem dX6_laysAd_213 : decode cX6_laysAd 213 = .ok (.iconst 1, 1) := by decide +kernel
theorem dX6_laysAd_214 : decode cX6_laysAd 214 = .ok (.iadd, 1) := by decide +kernel
theorem dX6_laysAd_215 : decode cX6_laysAd 215 = .ok (.iastore, 1) := by decide +kernel
theorem dX6_laysAd_216 : decode cX6_laysAd 216 = .ok (.iload 8, 2) := by decide +kernel
theorem dX6_laysAd_218 : decode cX6_laysAd 218 = .ok (.ireturn, 1) := by decide +kernel
theorem dX6_isNumber_0 : decode cX6_isNumber 0 = .ok (.iload_n 0, 1) := by decide +kernel
theorem dX6_isNumber_1 : decode cX6_isNumber 1 = .ok (.tableswitch 66 0 4 #[35, 42, 42, 49, 58], 35) := by decide +kernel
theorem dX6_isNumber_36 : decode cX6_isNumber 36 = .ok (.iload_n 1, 1) := by decide +kernel
theorem dX6_isNumber_37 : decode cX6_isNumber 37 = .ok (.iconst 0, 1) := by decide +kernel
theorem dX6_isNumber_38 : decode cX6_isNumber 38 = .ok (.iconst 3, 1) := by decide +kernel
theorem dX6_isNumber_39 : decode cX6_isNumber 39 = .ok (.invokestatic 88, 3) := by decide +kernel
theorem dX6_isNumber_42 : decode cX6_isNumber 42 = .ok (.ireturn, 1) := by decide +kernel
theorem dX6_isNumber_43 : decode cX6_isNumber 43 = .ok (.iload_n 1, 1) := by decide +kernel
theorem dX6_isNumber_44 : decode cX6_isNumber 44 = .ok (.iconst 1, 1) := by decide +kernel
theorem dX6_isNumber_45 : decode cX6_isNumber 45 = .ok (.iconst 3, 1) := by decide +kernel
theorem dX6_isNumber_46 : decode cX6_isNumber 46 = .ok (.invokestatic 88, 3) := by decide +kernel
theorem dX6_isNumber_49 : decode cX6_isNumber 49 = .ok (.ireturn, 1) := by decide +kernel
theorem dX6_isNumber_50 : decode cX6_isNumber 50 = .ok (.iload_n 1, 1) := by decide +kernel
theorem dX6_isNumber_51 : decode cX6_isNumber 51 = .ok (.iconst 1, 1) := by decide +kernel
theorem dX6_isNumber_52 : decode cX6_isNumber 52 = .ok (.sipush 150, 3) := by decide +kernel
theorem dX6_isNumber_55 : decode cX6_isNumber 55 = .ok (.invokestatic 88, 3) := by decide +kernel
theorem dX6_isNumber_58 : decode cX6_isNumber 58 = .ok (.ireturn, 1) := by decide +kernel
theorem dX6_isNumber_59 : decode cX6_isNumber 59 = .ok (.iload_n 1, 1) := by decide +kernel
theorem dX6_isNumber_60 : decode cX6_isNumber 60 = .ok (.iconst 0, 1) := by decide +kernel
theorem dX6_isNumber_61 : decode cX6_isNumber 61 = .ok (.bipush 9, 2) := by decide +kernel
theorem dX6_isNumber_63 : decode cX6_isNumber 63 = .ok (.invokestatic 88, 3) := by decide +kernel
theorem dX6_isNumber_66 : decode cX6_isNumber 66 = .ok (.ireturn, 1) := by decide +kernel
theorem dX6_isNumber_67 : decode cX6_isNumber 67 = .ok (.iconst 0, 1) := by decide +kernel
theorem dX6_isNumber_68 : decode cX6_isNumber 68 = .ok (.ireturn, 1) := by decide +kernel
theorem dX6_laysStory_0 : decode cX6_laysStory 0 = .ok (.iconst 0, 1) := by decide +kernel
theorem dX6_laysStory_1 : decode cX6_laysStory 1 = .ok (.iload_n 1, 1) := by decide +kernel
theorem dX6_laysStory_2 : decode cX6_laysStory 2 = .ok (.invokestatic 107, 3) := by decide +kernel
theorem dX6_laysStory_5 : decode cX6_laysStory 5 = .ok (.ifCond .ne 9, 3) := by decide +kernel
theorem dX6_laysStory_8 : decode cX6_laysStory 8 = .ok (.aload_n 0, 1) := by decide +kernel
theorem dX6_laysStory_9 : decode cX6_laysStory 9 = .ok (.iconst 1, 1) := by decide +kernel
theorem dX6_laysStory_10 : decode cX6_laysStory 10 = .ok (.invokevirtual 99, 3) := by decide +kernel
theorem dX6_laysStory_13 : decode cX6_laysStory 13 = .ok (.ireturn, 1) := by decide +kernel
theorem dX6_laysStory_14 : decode cX6_laysStory 14 = .ok (.iconst 1, 1) := by decide +kernel
theorem dX6_laysStory_15 : decode cX6_laysStory 15 = .ok (.iload_n 2, 1) := by decide +kernel
theorem dX6_laysStory_16 : decode cX6_laysStory 16 = .ok (.invokestatic 107, 3) := by decide +kernel
theorem dX6_laysStory_19 : decode cX6_laysStory 19 = .ok (.ifCond .eq 29, 3) := by decide +kernel
theorem dX6_laysStory_22 : decode cX6_laysStory 22 = .ok (.iconst 2, 1) := by decide +kernel
theorem dX6_laysStory_23 : decode cX6_laysStory 23 = .ok (.iload_n 3, 1) := by decide +kernel
theorem dX6_laysStory_24 : decode cX6_laysStory 24 = .ok (.invokestatic 107, 3) := by decide +kernel
theorem dX6_laysStory_27 : decode cX6_laysStory 27 = .ok (.ifCond .eq 21, 3) := by decide +kernel
theorem dX6_laysStory_30 : decode cX6_laysStory 30 = .ok (.iconst 3, 1) := by decide +kernel
theorem dX6_laysStory_31 : decode cX6_laysStory 31 = .ok (.iload 4, 2) := by decide +kernel
theorem dX6_laysStory_33 : decode cX6_laysStory 33 = .ok (.invokestatic 107, 3) := by decide +kernel
theorem dX6_laysStory_36 : decode cX6_laysStory 36 = .ok (.ifCond .eq 12, 3) := by decide +kernel
theorem dX6_laysStory_39 : decode cX6_laysStory 39 = .ok (.iconst 4, 1) := by decide +kernel
theorem dX6_laysStory_40 : decode cX6_laysStory 40 = .ok (.iload 5, 2) := by decide +kernel
theorem dX6_laysStory_42 : decode cX6_laysStory 42 = .ok (.invokestatic 107, 3) := by decide +kernel
theorem dX6_laysStory_45 : decode cX6_laysStory 45 = .ok (.ifCond .ne 9, 3) := by decide +kernel
theorem dX6_laysStory_48 : decode cX6_laysStory 48 = .ok (.aload_n 0, 1) := by decide +kernel
theorem dX6_laysStory_49 : decode cX6_laysStory 49 = .ok (.iconst 2, 1) := by decide +kernel
theorem dX6_laysStory_50 : decode cX6_laysStory 50 = .ok (.invokevirtual 99, 3) := by decide +kernel
theorem dX6_laysStory_53 : decode cX6_laysStory 53 = .ok (.ireturn, 1) := by decide +kernel
theorem dX6_laysStory_54 : decode cX6_laysStory 54 = .ok (.aload_n 0, 1) := by decide +kernel
theorem dX6_laysStory_55 : decode cX6_laysStory 55 = .ok (.getfield 13, 3) := by decide +kernel
theorem dX6_laysStory_58 : decode cX6_laysStory 58 = .ok (.iconst 0, 1) := by decide +kernel
theorem dX6_laysStory_59 : decode cX6_laysStory 59 = .ok (.iaload, 1) := by decide +kernel
theorem dX6_laysStory_60 : decode cX6_laysStory 60 = .ok (.istore 6, 2) := by decide +kernel
theorem dX6_laysStory_62 : decode cX6_laysStory 62 = .ok (.iload 6, 2) := by decide +kernel
theorem dX6_laysStory_64 : decode cX6_laysStory 64 = .ok (.bipush 12, 2) := by decide +kernel
theorem dX6_laysStory_66 : decode cX6_laysStory 66 = .ok (.if_icmp .ne 9, 3) := by decide +kernel
theorem dX6_laysStory_69 : decode cX6_laysStory 69 = .ok (.aload_n 0, 1) := by decide +kernel
theorem dX6_laysStory_70 : decode cX6_laysStory 70 = .ok (.iconst 3, 1) := by decide +kernel
theorem dX6_laysStory_71 : decode cX6_laysStory 71 = .ok (.invokevirtual 99, 3) := by decide +kernel
theorem dX6_laysStory_74 : decode cX6_laysStory 74 = .ok (.ireturn, 1) := by decide +kernel
theorem dX6_laysStory_75 : decode cX6_laysStory 75 = .ok (.iconst 2, 1) := by decide +kernel
theorem dX6_laysStory_76 : decode cX6_laysStory 76 = .ok (.bipush 9, 2) := by decide +kernel
theorem dX6_laysStory_78 : decode cX6_laysStory 78 = .ok (.iload 6, 2) := by decide +kernel
theorem dX6_laysStory_80 : decode cX6_laysStory 80 = .ok (.imul, 1) := by decide +kernel
theorem dX6_laysStory_81 : decode cX6_laysStory 81 = .ok (.iadd, 1) := by decide +kernel
theorem dX6_laysStory_82 : decode cX6_laysStory 82 = .ok (.istore 7, 2) := by decide +kernel
theorem dX6_laysStory_84 : decode cX6_laysStory 84 = .ok (.aload_n 0, 1) := by decide +kernel
theorem dX6_laysStory_85 : decode cX6_laysStory 85 = .ok (.getfield 13, 3) := by decide +kernel
theorem dX6_laysStory_88 : decode cX6_laysStory 88 = .ok (.iload 7, 2) := by decide +kernel
theorem dX6_laysStory_90 : decode cX6_laysStory 90 = .ok (.iconst 1, 1) := by decide +kernel
theorem dX6_laysStory_91 : decode cX6_laysStory 91 = .ok (.iastore, 1) := by decide +kernel
theorem dX6_laysStory_92 : decode cX6_laysStory 92 = .ok (.aload_n 0, 1) := by decide +kernel
theorem dX6_laysStory_93 : decode cX6_laysStory 93 = .ok (.getfield 13, 3) := by decide +kernel
theorem dX6_laysStory_96 : decode cX6_laysStory 96 = .ok (.iload 7, 2) := by decide +kernel
theorem dX6_laysStory_98 : decode cX6_laysStory 98 = .ok (.iconst 1, 1) := by decide +kernel
theorem dX6_laysStory_99 : decode cX6_laysStory 99 = .ok (.iadd, 1) := by decide +kernel
theorem dX6_laysStory_100 : decode cX6_laysStory 100 = .ok (.iload_n 1, 1) := by decide +kernel
theorem dX6_laysStory_101 : decode cX6_laysStory 101 = .ok (.iastore, 1) := by decide +kernel
theorem dX6_laysStory_102 : decode cX6_laysStory 102 = .ok (.aload_n 0, 1) := by decide +kernel
theorem dX6_laysStory_103 : decode cX6_laysStory 103 = .ok (.getfield 13, 3) := by decide +kernel
theorem dX6_laysStory_106 : decode cX6_laysStory 106 = .ok (.iload 7, 2) := by decide +kernel
theorem dX6_laysStory_108 : decode cX6_laysStory 108 = .ok (.iconst 2, 1) := by decide +kernel
theorem dX6_laysStory_109 : decode cX6_laysStory 109 = .ok (.iadd, 1) := by decide +kernel
theorem dX6_laysStory_110 : decode cX6_laysStory 110 = .ok (.iload_n 2, 1) := by decide +kernel
theorem dX6_laysStory_111 : decode cX6_laysStory 111 = .ok (.iastore, 1) := by decide +kernel
theorem dX6_laysStory_112 : decode cX6_laysStory 112 = .ok (.aload_n 0, 1) := by decide +kernel
theorem dX6_laysStory_113 : decode cX6_laysStory 113 = .ok (.getfield 13, 3) := by decide +kernel
theorem dX6_laysStory_116 : decode cX6_laysStory 116 = .ok (.iload 7, 2) := by decide +kernel
theorem dX6_laysStory_118 : decode cX6_laysStory 118 = .ok (.iconst 3, 1) := by decide +kernel
theorem dX6_laysStory_119 : decode cX6_laysStory 119 = .ok (.iadd, 1) := by decide +kernel
theorem dX6_laysStory_120 : decode cX6_laysStory 120 = .ok (.iload_n 3, 1) := by decide +kernel
theorem dX6_laysStory_121 : decode cX6_laysStory 121 = .ok (.iastore, 1) := by decide +kernel
theorem dX6_laysStory_122 : decode cX6_laysStory 122 = .ok (.aload_n 0, 1) := by decide +kernel
theorem dX6_laysStory_123 : decode cX6_laysStory 123 = .ok (.getfield 13, 3) := by decide +kernel
theorem dX6_laysStory_126 : decode cX6_laysStory 126 = .ok (.iload 7, 2) := by decide +kernel
theorem dX6_laysStory_128 : decode cX6_laysStory 128 = .ok (.iconst 4, 1) := by decide +kernel
theorem dX6_laysStory_129 : decode cX6_laysStory 129 = .ok (.iadd, 1) := by decide +kernel
theorem dX6_laysStory_130 : decode cX6_laysStory 130 = .ok (.iload 4, 2) := by decide +kernel
theorem dX6_laysStory_132 : decode cX6_laysStory 132 = .ok (.iastore, 1) := by decide +kernel
theorem dX6_laysStory_133 : decode cX6_laysStory 133 = .ok (.aload_n 0, 1) := by decide +kernel
theorem dX6_laysStory_134 : decode cX6_laysStory 134 = .ok (.getfield 13, 3) := by decide +kernel
theorem dX6_laysStory_137 : decode cX6_laysStory 137 = .ok (.iload 7, 2) := by decide +kernel
theorem dX6_laysStory_139 : decode cX6_laysStory 139 = .ok (.iconst 5, 1) := by decide +kernel
theorem dX6_laysStory_140 : decode cX6_laysStory 140 = .ok (.iadd, 1) := by decide +kernel
theorem dX6_laysStory_141 : decode cX6_laysStory 141 = .ok (.iload 5, 2) := by decide +kernel
theorem dX6_laysStory_143 : decode cX6_laysStory 143 = .ok (.iastore, 1) := by decide +kernel
theorem dX6_laysStory_144 : decode cX6_laysStory 144 = .ok (.bipush 6, 2) := by decide +kernel
theorem dX6_laysStory_146 : decode cX6_laysStory 146 = .ok (.istore 8, 2) := by decide +kernel
theorem dX6_laysStory_148 : decode cX6_laysStory 148 = .ok (.iload 8, 2) := by decide +kernel
theorem dX6_laysStory_150 : decode cX6_laysStory 150 = .ok (.bipush 9, 2) := by decide +kernel
theorem dX6_laysStory_152 : decode cX6_laysStory 152 = .ok (.if_icmp .ge 20, 3) := by decide +kernel
theorem dX6_laysStory_155 : decode cX6_laysStory 155 = .ok (.aload_n 0, 1) := by decide +kernel
theorem dX6_laysStory_156 : decode cX6_laysStory 156 = .ok (.getfield 13, 3) := by decide +kernel
theorem dX6_laysStory_159 : decode cX6_laysStory 159 = .ok (.iload 7, 2) := by decide +kernel
theorem dX6_laysStory_161 : decode cX6_laysStory 161 = .ok (.iload 8, 2) := by decide +kernel
theorem dX6_laysStory_163 : decode cX6_laysStory 163 = .ok (.iadd, 1) := by decide +kernel
theorem dX6_laysStory_164 : decode cX6_laysStory 164 = .ok (.iconst 0, 1) := by decide +kernel
theorem dX6_laysStory_165 : decode cX6_laysStory 165 = .ok (.iastore, 1) := by decide +kernel
theorem dX6_laysStory_166 : decode cX6_laysStory 166 = .ok (.iinc 8 1, 3) := by decide +kernel
theorem dX6_laysStory_169 : decode cX6_laysStory 169 = .ok (.goto (-21), 3) := by decide +kernel
theorem dX6_laysStory_172 : decode cX6_laysStory 172 = .ok (.aload_n 0, 1) := by decide +kernel
theorem dX6_laysStory_173 : decode cX6_laysStory 173 = .ok (.getfield 13, 3) := by decide +kernel
theorem dX6_laysStory_176 : decode cX6_laysStory 176 = .ok (.iconst 0, 1) := by decide +kernel
theorem dX6_laysStory_177 : decode cX6_laysStory 177 = .ok (.dup2, 1) := by decide +kernel
theorem dX6_laysStory_178 : decode cX6_laysStory 178 = .ok (.iaload, 1) := by decide +kernel
theorem dX6_laysStory_179 : decode cX6_laysStory 179 = .ok (.iconst 1, 1) := by decide +kernel
theorem dX6_laysStory_180 : decode cX6_laysStory 180 = .ok (.iadd, 1) := by decide +kernel
theorem dX6_laysStory_181 : decode cX6_laysStory 181 = .ok (.iastore, 1) := by decide +kernel
theorem dX6_laysStory_182 : decode cX6_laysStory 182 = .ok (.iload 6, 2) := by decide +kernel
theorem dX6_laysStory_184 : decode cX6_laysStory 184 = .ok (.ireturn, 1) := by decide +kernel
theorem dX6_laysPhoto_0 : decode cX6_laysPhoto 0 = .ok (.aload_n 0, 1) := by decide +kernel
theorem dX6_laysPhoto_1 : decode cX6_laysPhoto 1 = .ok (.iload_n 1, 1) := by decide +kernel
theorem dX6_laysPhoto_2 : decode cX6_laysPhoto 2 = .ok (.invokevirtual 111, 3) := by decide +kernel
theorem dX6_laysPhoto_5 : decode cX6_laysPhoto 5 = .ok (.ifCond .ne 9, 3) := by decide +kernel
theorem dX6_laysPhoto_8 : decode cX6_laysPhoto 8 = .ok (.aload_n 0, 1) := by decide +kernel
theorem dX6_laysPhoto_9 : decode cX6_laysPhoto 9 = .ok (.iconst 1, 1) := by decide +kernel
theorem dX6_laysPhoto_10 : decode cX6_laysPhoto 10 = .ok (.invokevirtual 99, 3) := by decide +kernel
theorem dX6_laysPhoto_13 : decode cX6_laysPhoto 13 = .ok (.ireturn, 1) := by decide +kernel
theorem dX6_laysPhoto_14 : decode cX6_laysPhoto 14 = .ok (.iload_n 2, 1) := by decide +kernel
theorem dX6_laysPhoto_15 : decode cX6_laysPhoto 15 = .ok (.ifCond .ne 15, 3) := by decide +kernel
theorem dX6_laysPhoto_18 : decode cX6_laysPhoto 18 = .ok (.iload_n 3, 1) := by decide +kernel
theorem dX6_laysPhoto_19 : decode cX6_laysPhoto 19 = .ok (.ifCond .ne 7, 3) := by decide +kernel
theorem dX6_laysPhoto_22 : decode cX6_laysPhoto 22 = .ok (.iconst 1, 1) := by decide +kernel
theorem dX6_laysPhoto_23 : decode cX6_laysPhoto 23 = .ok (.goto 31, 3) := by decide +kernel
theorem dX6_laysPhoto_26 : decode cX6_laysPhoto 26 = .ok (.iconst 0, 1) := by decide +kernel
theorem dX6_laysPhoto_27 : decode cX6_laysPhoto 27 = .ok (.goto 27, 3) := by decide +kernel
theorem dX6_laysPhoto_30 : decode cX6_laysPhoto 30 = .ok (.iload_n 2, 1) := by decide +kernel
theorem dX6_laysPhoto_31 : decode cX6_laysPhoto 31 = .ok (.iconst 2, 1) := by decide +kernel
theorem dX6_laysPhoto_32 : decode cX6_laysPhoto 32 = .ok (.bipush 8, 2) := by decide +kernel
theorem dX6_laysPhoto_34 : decode cX6_laysPhoto 34 = .ok (.invokestatic 88, 3) := by decide +kernel
theorem dX6_laysPhoto_37 : decode cX6_laysPhoto 37 = .ok (.ifCond .eq 16, 3) := by decide +kernel
theorem dX6_laysPhoto_40 : decode cX6_laysPhoto 40 = .ok (.iload_n 3, 1) := by decide +kernel
theorem dX6_laysPhoto_41 : decode cX6_laysPhoto 41 = .ok (.iconst 0, 1) := by decide +kernel
theorem dX6_laysPhoto_42 : decode cX6_laysPhoto 42 = .ok (.iconst 2, 1) := by decide +kernel
theorem dX6_laysPhoto_43 : decode cX6_laysPhoto 43 = .ok (.invokestatic 88, 3) := by decide +kernel
theorem dX6_laysPhoto_46 : decode cX6_laysPhoto 46 = .ok (.ifCond .eq 7, 3) := by decide +kernel
theorem dX6_laysPhoto_49 : decode cX6_laysPhoto 49 = .ok (.iconst 1, 1) := by decide +kernel
theorem dX6_laysPhoto_50 : decode cX6_laysPhoto 50 = .ok (.goto 4, 3) := by decide +kernel
theorem dX6_laysPhoto_53 : decode cX6_laysPhoto 53 = .ok (.iconst 0, 1) := by decide +kernel
theorem dX6_laysPhoto_54 : decode cX6_laysPhoto 54 = .ok (.istore 4, 2) := by decide +kernel
theorem dX6_laysPhoto_56 : decode cX6_laysPhoto 56 = .ok (.iload 4, 2) := by decide +kernel
theorem dX6_laysPhoto_58 : decode cX6_laysPhoto 58 = .ok (.ifCond .ne 9, 3) := by decide +kernel
theorem dX6_laysPhoto_61 : decode cX6_laysPhoto 61 = .ok (.aload_n 0, 1) := by decide +kernel
theorem dX6_laysPhoto_62 : decode cX6_laysPhoto 62 = .ok (.iconst 2, 1) := by decide +kernel
theorem dX6_laysPhoto_63 : decode cX6_laysPhoto 63 = .ok (.invokevirtual 99, 3) := by decide +kernel
theorem dX6_laysPhoto_66 : decode cX6_laysPhoto 66 = .ok (.ireturn, 1) := by decide +kernel
theorem dX6_laysPhoto_67 : decode cX6_laysPhoto 67 = .ok (.aload_n 0, 1) := by decide +kernel
theorem dX6_laysPhoto_68 : decode cX6_laysPhoto 68 = .ok (.iload_n 1, 1) := by decide +kernel
theorem dX6_laysPhoto_69 : decode cX6_laysPhoto 69 = .ok (.bipush 6, 2) := by decide +kernel
theorem dX6_laysPhoto_71 : decode cX6_laysPhoto 71 = .ok (.invokevirtual 92, 3) := by decide +kernel
theorem dX6_laysPhoto_74 : decode cX6_laysPhoto 74 = .ok (.istore 5, 2) := by decide +kernel
theorem dX6_laysPhoto_76 : decode cX6_laysPhoto 76 = .ok (.aload_n 0, 1) := by decide +kernel
theorem dX6_laysPhoto_77 : decode cX6_laysPhoto 77 = .ok (.getfield 13, 3) := by decide +kernel
theorem dX6_laysPhoto_80 : decode cX6_laysPhoto 80 = .ok (.iconst 2, 1) := by decide +kernel
theorem dX6_laysPhoto_81 : decode cX6_laysPhoto 81 = .ok (.bipush 9, 2) := by decide +kernel
theorem dX6_laysPhoto_83 : decode cX6_laysPhoto 83 = .ok (.iload_n 1, 1) := by decide +kernel
theorem dX6_laysPhoto_84 : decode cX6_laysPhoto 84 = .ok (.imul, 1) := by decide +kernel
theorem dX6_laysPhoto_85 : decode cX6_laysPhoto 85 = .ok (.iadd, 1) := by decide +kernel
theorem dX6_laysPhoto_86 : decode cX6_laysPhoto 86 = .ok (.bipush 6, 2) := by decide +kernel
theorem dX6_laysPhoto_88 : decode cX6_laysPhoto 88 = .ok (.iadd, 1) := by decide +kernel
theorem dX6_laysPhoto_89 : decode cX6_laysPhoto 89 = .ok (.iload_n 2, 1) := by decide +kernel
theorem dX6_laysPhoto_90 : decode cX6_laysPhoto 90 = .ok (.iastore, 1) := by decide +kernel
theorem dX6_laysPhoto_91 : decode cX6_laysPhoto 91 = .ok (.aload_n 0, 1) := by decide +kernel
theorem dX6_laysPhoto_92 : decode cX6_laysPhoto 92 = .ok (.getfield 13, 3) := by decide +kernel
theorem dX6_laysPhoto_95 : decode cX6_laysPhoto 95 = .ok (.iconst 2, 1) := by decide +kernel
theorem dX6_laysPhoto_96 : decode cX6_laysPhoto 96 = .ok (.bipush 9, 2) := by decide +kernel
theorem dX6_laysPhoto_98 : decode cX6_laysPhoto 98 = .ok (.iload_n 1, 1) := by decide +kernel
theorem dX6_laysPhoto_99 : decode cX6_laysPhoto 99 = .ok (.imul, 1) := by decide +kernel
theorem dX6_laysPhoto_100 : decode cX6_laysPhoto 100 = .ok (.iadd, 1) := by decide +kernel
theorem dX6_laysPhoto_101 : decode cX6_laysPhoto 101 = .ok (.bipush 7, 2) := by decide +kernel
theorem dX6_laysPhoto_103 : decode cX6_laysPhoto 103 = .ok (.iadd, 1) := by decide +kernel
theorem dX6_laysPhoto_104 : decode cX6_laysPhoto 104 = .ok (.iload_n 3, 1) := by decide +kernel
theorem dX6_laysPhoto_105 : decode cX6_laysPhoto 105 = .ok (.iastore, 1) := by decide +kernel
theorem dX6_laysPhoto_106 : decode cX6_laysPhoto 106 = .ok (.iload 5, 2) := by decide +kernel
theorem dX6_laysPhoto_108 : decode cX6_laysPhoto 108 = .ok (.ireturn, 1) := by decide +kernel
theorem dX6_laysLate_0 : decode cX6_laysLate 0 = .ok (.aload_n 0, 1) := by decide +kernel
theorem dX6_laysLate_1 : decode cX6_laysLate 1 = .ok (.iload_n 1, 1) := by decide +kernel
theorem dX6_laysLate_2 : decode cX6_laysLate 2 = .ok (.invokevirtual 111, 3) := by decide +kernel
theorem dX6_laysLate_5 : decode cX6_laysLate 5 = .ok (.ifCond .ne 9, 3) := by decide +kernel
theorem dX6_laysLate_8 : decode cX6_laysLate 8 = .ok (.aload_n 0, 1) := by decide +kernel
theorem dX6_laysLate_9 : decode cX6_laysLate 9 = .ok (.iconst 1, 1) := by decide +kernel
theorem dX6_laysLate_10 : decode cX6_laysLate 10 = .ok (.invokevirtual 99, 3) := by decide +kernel
theorem dX6_laysLate_13 : decode cX6_laysLate 13 = .ok (.ireturn, 1) := by decide +kernel
theorem dX6_laysLate_14 : decode cX6_laysLate 14 = .ok (.aload_n 0, 1) := by decide +kernel
theorem dX6_laysLate_15 : decode cX6_laysLate 15 = .ok (.iload_n 1, 1) := by decide +kernel
theorem dX6_laysLate_16 : decode cX6_laysLate 16 = .ok (.bipush 8, 2) := by decide +kernel
theorem dX6_laysLate_18 : decode cX6_laysLate 18 = .ok (.invokevirtual 92, 3) := by decide +kernel
theorem dX6_laysLate_21 : decode cX6_laysLate 21 = .ok (.istore_n 3, 1) := by decide +kernel
theorem dX6_laysLate_22 : decode cX6_laysLate 22 = .ok (.aload_n 0, 1) := by decide +kernel
theorem dX6_laysLate_23 : decode cX6_laysLate 23 = .ok (.getfield 13, 3) := by decide +kernel
theorem dX6_laysLate_26 : decode cX6_laysLate 26 = .ok (.iconst 2, 1) := by decide +kernel
theorem dX6_laysLate_27 : decode cX6_laysLate 27 = .ok (.bipush 9, 2) := by decide +kernel
theorem dX6_laysLate_29 : decode cX6_laysLate 29 = .ok (.iload_n 1, 1) := by decide +kernel
theorem dX6_laysLate_30 : decode cX6_laysLate 30 = .ok (.imul, 1) := by decide +kernel
theorem dX6_laysLate_31 : decode cX6_laysLate 31 = .ok (.iadd, 1) := by decide +kernel
theorem dX6_laysLate_32 : decode cX6_laysLate 32 = .ok (.bipush 8, 2) := by decide +kernel
theorem dX6_laysLate_34 : decode cX6_laysLate 34 = .ok (.iadd, 1) := by decide +kernel
theorem dX6_laysLate_35 : decode cX6_laysLate 35 = .ok (.iload_n 2, 1) := by decide +kernel
theorem dX6_laysLate_36 : decode cX6_laysLate 36 = .ok (.iastore, 1) := by decide +kernel
theorem dX6_laysLate_37 : decode cX6_laysLate 37 = .ok (.iload_n 3, 1) := by decide +kernel
theorem dX6_laysLate_38 : decode cX6_laysLate 38 = .ok (.ireturn, 1) := by decide +kernel
theorem dX6_begins_0 : decode cX6_begins 0 = .ok (.aload_n 0, 1) := by decide +kernel
theorem dX6_begins_1 : decode cX6_begins 1 = .ok (.iconst 0, 1) := by decide +kernel
theorem dX6_begins_2 : decode cX6_begins 2 = .ok (.putfield 3, 3) := by decide +kernel
theorem dX6_begins_5 : decode cX6_begins 5 = .ok (.aload_n 0, 1) := by decide +kernel
theorem dX6_begins_6 : decode cX6_begins 6 = .ok (.invokevirtual 115, 3) := by decide +kernel
theorem dX6_begins_9 : decode cX6_begins 9 = .ok (.return_, 1) := by decide +kernel
theorem dX6_ends_0 : decode cX6_ends 0 = .ok (.aload_n 0, 1) := by decide +kernel
theorem dX6_ends_1 : decode cX6_ends 1 = .ok (.getfield 3, 3) := by decide +kernel
theorem dX6_ends_4 : decode cX6_ends 4 = .ok (.ifCond .ne 7, 3) := by decide +kernel
theorem dX6_ends_7 : decode cX6_ends 7 = .ok (.aload_n 0, 1) := by decide +kernel
theorem dX6_ends_8 : decode cX6_ends 8 = .ok (.invokevirtual 118, 3) := by decide +kernel
theorem dX6_ends_11 : decode cX6_ends 11 = .ok (.iload_n 1, 1) := by decide +kernel
theorem dX6_ends_12 : decode cX6_ends 12 = .ok (.ireturn, 1) := by decide +kernel
theorem dX6_addAdvertisement_0 : decode cX6_addAdvertisement 0 = .ok (.aload_n 0, 1) := by decide +kernel
theorem dX6_addAdvertisement_1 : decode cX6_addAdvertisement 1 = .ok (.invokevirtual 120, 3) := by decide +kernel
theorem dX6_addAdvertisement_4 : decode cX6_addAdvertisement 4 = .ok (.aload_n 0, 1) := by decide +kernel
theorem dX6_addAdvertisement_5 : decode cX6_addAdvertisement 5 = .ok (.aload_n 0, 1) := by decide +kernel
theorem dX6_addAdvertisement_6 : decode cX6_addAdvertisement 6 = .ok (.iload_n 1, 1) := by decide +kernel
theorem dX6_addAdvertisement_7 : decode cX6_addAdvertisement 7 = .ok (.iload_n 2, 1) := by decide +kernel
theorem dX6_addAdvertisement_8 : decode cX6_addAdvertisement 8 = .ok (.iload_n 3, 1) := by decide +kernel
theorem dX6_addAdvertisement_9 : decode cX6_addAdvertisement 9 = .ok (.iload 4, 2) := by decide +kernel
theorem dX6_addAdvertisement_11 : decode cX6_addAdvertisement 11 = .ok (.iload 5, 2) := by decide +kernel
theorem dX6_addAdvertisement_13 : decode cX6_addAdvertisement 13 = .ok (.iload 6, 2) := by decide +kernel
theorem dX6_addAdvertisement_15 : decode cX6_addAdvertisement 15 = .ok (.invokevirtual 123, 3) := by decide +kernel
theorem dX6_addAdvertisement_18 : decode cX6_addAdvertisement 18 = .ok (.invokevirtual 127, 3) := by decide +kernel
theorem dX6_addAdvertisement_21 : decode cX6_addAdvertisement 21 = .ok (.ireturn, 1) := by decide +kernel
theorem dX6_addStory_0 : decode cX6_addStory 0 = .ok (.aload_n 0, 1) := by decide +kernel
theorem dX6_addStory_1 : decode cX6_addStory 1 = .ok (.invokevirtual 120, 3) := by decide +kernel
theorem dX6_addStory_4 : decode cX6_addStory 4 = .ok (.aload_n 0, 1) := by decide +kernel
theorem dX6_addStory_5 : decode cX6_addStory 5 = .ok (.aload_n 0, 1) := by decide +kernel
theorem dX6_addStory_6 : decode cX6_addStory 6 = .ok (.iload_n 1, 1) := by decide +kernel
theorem dX6_addStory_7 : decode cX6_addStory 7 = .ok (.iload_n 2, 1) := by decide +kernel
theorem dX6_addStory_8 : decode cX6_addStory 8 = .ok (.iload_n 3, 1) := by decide +kernel
theorem dX6_addStory_9 : decode cX6_addStory 9 = .ok (.iload 4, 2) := by decide +kernel
theorem dX6_addStory_11 : decode cX6_addStory 11 = .ok (.iload 5, 2) := by decide +kernel
theorem dX6_addStory_13 : decode cX6_addStory 13 = .ok (.invokevirtual 130, 3) := by decide +kernel
theorem dX6_addStory_16 : decode cX6_addStory 16 = .ok (.invokevirtual 127, 3) := by decide +kernel
theorem dX6_addStory_19 : decode cX6_addStory 19 = .ok (.ireturn, 1) := by decide +kernel
theorem dX6_setPhoto_0 : decode cX6_setPhoto 0 = .ok (.aload_n 0, 1) := by decide +kernel
theorem dX6_setPhoto_1 : decode cX6_setPhoto 1 = .ok (.invokevirtual 120, 3) := by decide +kernel
theorem dX6_setPhoto_4 : decode cX6_setPhoto 4 = .ok (.aload_n 0, 1) := by decide +kernel
theorem dX6_setPhoto_5 : decode cX6_setPhoto 5 = .ok (.aload_n 0, 1) := by decide +kernel
theorem dX6_setPhoto_6 : decode cX6_setPhoto 6 = .ok (.iload_n 1, 1) := by decide +kernel
theorem dX6_setPhoto_7 : decode cX6_setPhoto 7 = .ok (.iload_n 2, 1) := by decide +kernel
theorem dX6_setPhoto_8 : decode cX6_setPhoto 8 = .ok (.iload_n 3, 1) := by decide +kernel
theorem dX6_setPhoto_9 : decode cX6_setPhoto 9 = .ok (.invokevirtual 134, 3) := by decide +kernel
theorem dX6_setPhoto_12 : decode cX6_setPhoto 12 = .ok (.invokevirtual 127, 3) := by decide +kernel
theorem dX6_setPhoto_15 : decode cX6_setPhoto 15 = .ok (.ireturn, 1) := by decide +kernel
theorem dX6_setLate_0 : decode cX6_setLate 0 = .ok (.aload_n 0, 1) := by decide +kernel
theorem dX6_setLate_1 : decode cX6_setLate 1 = .ok (.invokevirtual 120, 3) := by decide +kernel
theorem dX6_setLate_4 : decode cX6_setLate 4 = .ok (.aload_n 0, 1) := by decide +kernel
theorem dX6_setLate_5 : decode cX6_setLate 5 = .ok (.aload_n 0, 1) := by decide +kernel
theorem dX6_setLate_6 : decode cX6_setLate 6 = .ok (.iload_n 1, 1) := by decide +kernel
theorem dX6_setLate_7 : decode cX6_setLate 7 = .ok (.iload_n 2, 1) := by decide +kernel
theorem dX6_setLate_8 : decode cX6_setLate 8 = .ok (.ifCond .eq 7, 3) := by decide +kernel
theorem dX6_setLate_11 : decode cX6_setLate 11 = .ok (.iconst 1, 1) := by decide +kernel
theorem dX6_setLate_12 : decode cX6_setLate 12 = .ok (.goto 4, 3) := by decide +kernel
theorem dX6_setLate_15 : decode cX6_setLate 15 = .ok (.iconst 0, 1) := by decide +kernel
theorem dX6_setLate_16 : decode cX6_setLate 16 = .ok (.invokevirtual 138, 3) := by decide +kernel
theorem dX6_setLate_19 : decode cX6_setLate 19 = .ok (.invokevirtual 127, 3) := by decide +kernel
theorem dX6_setLate_22 : decode cX6_setLate 22 = .ok (.iconst 1, 1) := by decide +kernel
theorem dX6_setLate_23 : decode cX6_setLate 23 = .ok (.if_icmp .ne 7, 3) := by decide +kernel
theorem dX6_setLate_26 : decode cX6_setLate 26 = .ok (.iconst 1, 1) := by decide +kernel
theorem dX6_setLate_27 : decode cX6_setLate 27 = .ok (.goto 4, 3) := by decide +kernel
theorem dX6_setLate_30 : decode cX6_setLate 30 = .ok (.iconst 0, 1) := by decide +kernel
theorem dX6_setLate_31 : decode cX6_setLate 31 = .ok (.ireturn, 1) := by decide +kernel
theorem dX6_change_0 : decode cX6_change 0 = .ok (.aload_n 0, 1) := by decide +kernel
theorem dX6_change_1 : decode cX6_change 1 = .ok (.invokevirtual 120, 3) := by decide +kernel
theorem dX6_change_4 : decode cX6_change 4 = .ok (.aload_n 0, 1) := by decide +kernel
theorem dX6_change_5 : decode cX6_change 5 = .ok (.iload_n 1, 1) := by decide +kernel
theorem dX6_change_6 : decode cX6_change 6 = .ok (.invokevirtual 111, 3) := by decide +kernel
theorem dX6_change_9 : decode cX6_change 9 = .ok (.ifCond .ne 9, 3) := by decide +kernel
theorem dX6_change_12 : decode cX6_change 12 = .ok (.aload_n 0, 1) := by decide +kernel
theorem dX6_change_13 : decode cX6_change 13 = .ok (.iconst 1, 1) := by decide +kernel
theorem dX6_change_14 : decode cX6_change 14 = .ok (.invokevirtual 99, 3) := by decide +kernel
theorem dX6_change_17 : decode cX6_change 17 = .ok (.ireturn, 1) := by decide +kernel
theorem dX6_change_18 : decode cX6_change 18 = .ok (.iload_n 2, 1) := by decide +kernel
theorem dX6_change_19 : decode cX6_change 19 = .ok (.iload_n 3, 1) := by decide +kernel
theorem dX6_change_20 : decode cX6_change 20 = .ok (.invokestatic 107, 3) := by decide +kernel
theorem dX6_change_23 : decode cX6_change 23 = .ok (.ifCond .ne 9, 3) := by decide +kernel
theorem dX6_change_26 : decode cX6_change 26 = .ok (.aload_n 0, 1) := by decide +kernel
theorem dX6_change_27 : decode cX6_change 27 = .ok (.iconst 2, 1) := by decide +kernel
theorem dX6_change_28 : decode cX6_change 28 = .ok (.invokevirtual 99, 3) := by decide +kernel
theorem dX6_change_31 : decode cX6_change 31 = .ok (.ireturn, 1) := by decide +kernel
theorem dX6_change_32 : decode cX6_change 32 = .ok (.aload_n 0, 1) := by decide +kernel
theorem dX6_change_33 : decode cX6_change 33 = .ok (.iload_n 1, 1) := by decide +kernel
theorem dX6_change_34 : decode cX6_change 34 = .ok (.iconst 1, 1) := by decide +kernel
theorem dX6_change_35 : decode cX6_change 35 = .ok (.iload_n 2, 1) := by decide +kernel
theorem dX6_change_36 : decode cX6_change 36 = .ok (.iadd, 1) := by decide +kernel
theorem dX6_change_37 : decode cX6_change 37 = .ok (.invokevirtual 92, 3) := by decide +kernel
theorem dX6_change_40 : decode cX6_change 40 = .ok (.istore 4, 2) := by decide +kernel
theorem dX6_change_42 : decode cX6_change 42 = .ok (.aload_n 0, 1) := by decide +kernel
theorem dX6_change_43 : decode cX6_change 43 = .ok (.getfield 13, 3) := by decide +kernel
theorem dX6_change_46 : decode cX6_change 46 = .ok (.iconst 2, 1) := by decide +kernel
theorem dX6_change_47 : decode cX6_change 47 = .ok (.bipush 9, 2) := by decide +kernel
theorem dX6_change_49 : decode cX6_change 49 = .ok (.iload_n 1, 1) := by decide +kernel
theorem dX6_change_50 : decode cX6_change 50 = .ok (.imul, 1) := by decide +kernel
theorem dX6_change_51 : decode cX6_change 51 = .ok (.iadd, 1) := by decide +kernel
theorem dX6_change_52 : decode cX6_change 52 = .ok (.iconst 1, 1) := by decide +kernel
theorem dX6_change_53 : decode cX6_change 53 = .ok (.iadd, 1) := by decide +kernel
theorem dX6_change_54 : decode cX6_change 54 = .ok (.iload_n 2, 1) := by decide +kernel
theorem dX6_change_55 : decode cX6_change 55 = .ok (.iadd, 1) := by decide +kernel
theorem dX6_change_56 : decode cX6_change 56 = .ok (.iload_n 3, 1) := by decide +kernel
theorem dX6_change_57 : decode cX6_change 57 = .ok (.iastore, 1) := by decide +kernel
theorem dX6_change_58 : decode cX6_change 58 = .ok (.aload_n 0, 1) := by decide +kernel
theorem dX6_change_59 : decode cX6_change 59 = .ok (.iload 4, 2) := by decide +kernel
theorem dX6_change_61 : decode cX6_change 61 = .ok (.invokevirtual 127, 3) := by decide +kernel
theorem dX6_change_64 : decode cX6_change 64 = .ok (.ireturn, 1) := by decide +kernel
theorem dX6_many_0 : decode cX6_many 0 = .ok (.iconst 0, 1) := by decide +kernel
theorem dX6_many_1 : decode cX6_many 1 = .ok (.istore_n 2, 1) := by decide +kernel
theorem dX6_many_2 : decode cX6_many 2 = .ok (.iconst 0, 1) := by decide +kernel
theorem dX6_many_3 : decode cX6_many 3 = .ok (.istore_n 3, 1) := by decide +kernel
theorem dX6_many_4 : decode cX6_many 4 = .ok (.iload_n 3, 1) := by decide +kernel
theorem dX6_many_5 : decode cX6_many 5 = .ok (.iload_n 1, 1) := by decide +kernel
theorem dX6_many_6 : decode cX6_many 6 = .ok (.ifCond .eq 8, 3) := by decide +kernel
theorem dX6_many_9 : decode cX6_many 9 = .ok (.bipush 12, 2) := by decide +kernel
theorem dX6_many_11 : decode cX6_many 11 = .ok (.goto 5, 3) := by decide +kernel
theorem dX6_many_14 : decode cX6_many 14 = .ok (.bipush 8, 2) := by decide +kernel
theorem dX6_many_16 : decode cX6_many 16 = .ok (.if_icmp .ge 31, 3) := by decide +kernel
theorem dX6_many_19 : decode cX6_many 19 = .ok (.iload_n 2, 1) := by decide +kernel
theorem dX6_many_20 : decode cX6_many 20 = .ok (.iload_n 1, 1) := by decide +kernel
theorem dX6_many_21 : decode cX6_many 21 = .ok (.ifCond .eq 12, 3) := by decide +kernel
theorem dX6_many_24 : decode cX6_many 24 = .ok (.aload_n 0, 1) := by decide +kernel
theorem dX6_many_25 : decode cX6_many 25 = .ok (.iload_n 3, 1) := by decide +kernel
theorem dX6_many_26 : decode cX6_many 26 = .ok (.iconst 0, 1) := by decide +kernel
theorem dX6_many_27 : decode cX6_many 27 = .ok (.invokevirtual 92, 3) := by decide +kernel
theorem dX6_many_30 : decode cX6_many 30 = .ok (.goto 9, 3) := by decide +kernel
theorem dX6_many_33 : decode cX6_many 33 = .ok (.aload_n 0, 1) := by decide +kernel
theorem dX6_many_34 : decode cX6_many 34 = .ok (.iload_n 3, 1) := by decide +kernel
theorem dX6_many_35 : decode cX6_many 35 = .ok (.iconst 0, 1) := by decide +kernel
theorem dX6_many_36 : decode cX6_many 36 = .ok (.invokevirtual 96, 3) := by decide +kernel
theorem dX6_many_39 : decode cX6_many 39 = .ok (.iadd, 1) := by decide +kernel
theorem dX6_many_40 : decode cX6_many 40 = .ok (.istore_n 2, 1) := by decide +kernel
theorem dX6_many_41 : decode cX6_many 41 = .ok (.iinc 3 1, 3) := by decide +kernel
theorem dX6_many_44 : decode cX6_many 44 = .ok (.goto (-40), 3) := by decide +kernel
theorem dX6_many_47 : decode cX6_many 47 = .ok (.iload_n 2, 1) := by decide +kernel
theorem dX6_many_48 : decode cX6_many 48 = .ok (.ireturn, 1) := by decide +kernel
theorem dX6_remove_0 : decode cX6_remove 0 = .ok (.aload_n 0, 1) := by decide +kernel
theorem dX6_remove_1 : decode cX6_remove 1 = .ok (.invokevirtual 120, 3) := by decide +kernel
theorem dX6_remove_4 : decode cX6_remove 4 = .ok (.iload_n 1, 1) := by decide +kernel
theorem dX6_remove_5 : decode cX6_remove 5 = .ok (.ifCond .eq 14, 3) := by decide +kernel
theorem dX6_remove_8 : decode cX6_remove 8 = .ok (.aload_n 0, 1) := by decide +kernel
theorem dX6_remove_9 : decode cX6_remove 9 = .ok (.iload_n 2, 1) := by decide +kernel
theorem dX6_remove_10 : decode cX6_remove 10 = .ok (.invokevirtual 111, 3) := by decide +kernel
theorem dX6_remove_13 : decode cX6_remove 13 = .ok (.ifCond .eq 14, 3) := by decide +kernel
theorem dX6_remove_16 : decode cX6_remove 16 = .ok (.goto 17, 3) := by decide +kernel
theorem dX6_remove_19 : decode cX6_remove 19 = .ok (.aload_n 0, 1) := by decide +kernel
theorem dX6_remove_20 : decode cX6_remove 20 = .ok (.iload_n 2, 1) := by decide +kernel
theorem dX6_remove_21 : decode cX6_remove 21 = .ok (.invokevirtual 141, 3) := by decide +kernel
theorem dX6_remove_24 : decode cX6_remove 24 = .ok (.ifCond .ne 9, 3) := by decide +kernel
theorem dX6_remove_27 : decode cX6_remove 27 = .ok (.aload_n 0, 1) := by decide +kernel
theorem dX6_remove_28 : decode cX6_remove 28 = .ok (.iconst 1, 1) := by decide +kernel
theorem dX6_remove_29 : decode cX6_remove 29 = .ok (.invokevirtual 99, 3) := by decide +kernel
theorem dX6_remove_32 : decode cX6_remove 32 = .ok (.ireturn, 1) := by decide +kernel
theorem dX6_remove_33 : decode cX6_remove 33 = .ok (.aload_n 0, 1) := by decide +kernel
theorem dX6_remove_34 : decode cX6_remove 34 = .ok (.getfield 13, 3) := by decide +kernel
theorem dX6_remove_37 : decode cX6_remove 37 = .ok (.iload_n 1, 1) := by decide +kernel
theorem dX6_remove_38 : decode cX6_remove 38 = .ok (.ifCond .eq 12, 3) := by decide +kernel
theorem dX6_remove_41 : decode cX6_remove 41 = .ok (.iconst 2, 1) := by decide +kernel
theorem dX6_remove_42 : decode cX6_remove 42 = .ok (.bipush 9, 2) := by decide +kernel
theorem dX6_remove_44 : decode cX6_remove 44 = .ok (.iload_n 2, 1) := by decide +kernel
theorem dX6_remove_45 : decode cX6_remove 45 = .ok (.imul, 1) := by decide +kernel
theorem dX6_remove_46 : decode cX6_remove 46 = .ok (.iadd, 1) := by decide +kernel
theorem dX6_remove_47 : decode cX6_remove 47 = .ok (.goto 10, 3) := by decide +kernel
theorem dX6_remove_50 : decode cX6_remove 50 = .ok (.bipush 110, 2) := by decide +kernel
theorem dX6_remove_52 : decode cX6_remove 52 = .ok (.bipush 7, 2) := by decide +kernel
theorem dX6_remove_54 : decode cX6_remove 54 = .ok (.iload_n 2, 1) := by decide +kernel
theorem dX6_remove_55 : decode cX6_remove 55 = .ok (.imul, 1) := by decide +kernel
theorem dX6_remove_56 : decode cX6_remove 56 = .ok (.iadd, 1) := by decide +kernel
theorem dX6_remove_57 : decode cX6_remove 57 = .ok (.iconst 0, 1) := by decide +kernel
theorem dX6_remove_58 : decode cX6_remove 58 = .ok (.iastore, 1) := by decide +kernel
theorem dX6_remove_59 : decode cX6_remove 59 = .ok (.aload_n 0, 1) := by decide +kernel
theorem dX6_remove_60 : decode cX6_remove 60 = .ok (.aload_n 0, 1) := by decide +kernel
theorem dX6_remove_61 : decode cX6_remove 61 = .ok (.iload_n 1, 1) := by decide +kernel
theorem dX6_remove_62 : decode cX6_remove 62 = .ok (.invokevirtual 144, 3) := by decide +kernel
theorem dX6_remove_65 : decode cX6_remove 65 = .ok (.invokevirtual 127, 3) := by decide +kernel
theorem dX6_remove_68 : decode cX6_remove 68 = .ok (.ireturn, 1) := by decide +kernel
theorem dX6_at_0 : decode cX6_at 0 = .ok (.bipush 24, 2) := by decide +kernel
theorem dX6_at_2 : decode cX6_at 2 = .ok (.iload_n 0, 1) := by decide +kernel
theorem dX6_at_3 : decode cX6_at 3 = .ok (.imul, 1) := by decide +kernel
theorem dX6_at_4 : decode cX6_at 4 = .ok (.iload_n 2, 1) := by decide +kernel
theorem dX6_at_5 : decode cX6_at 5 = .ok (.iadd, 1) := by decide +kernel
theorem dX6_at_6 : decode cX6_at 6 = .ok (.iconst 5, 1) := by decide +kernel
theorem dX6_at_7 : decode cX6_at 7 = .ok (.imul, 1) := by decide +kernel
theorem dX6_at_8 : decode cX6_at 8 = .ok (.iload_n 1, 1) := by decide +kernel
theorem dX6_at_9 : decode cX6_at 9 = .ok (.iadd, 1) := by decide +kernel
theorem dX6_at_10 : decode cX6_at 10 = .ok (.ireturn, 1) := by decide +kernel
theorem dX6_isAhead_0 : decode cX6_isAhead 0 = .ok (.aload_n 0, 1) := by decide +kernel
theorem dX6_isAhead_1 : decode cX6_isAhead 1 = .ok (.iload_n 1, 1) := by decide +kernel
theorem dX6_isAhead_2 : decode cX6_isAhead 2 = .ok (.bipush 8, 2) := by decide +kernel
theorem dX6_isAhead_4 : decode cX6_isAhead 4 = .ok (.invokevirtual 92, 3) := by decide +kernel
theorem dX6_isAhead_7 : decode cX6_isAhead 7 = .ok (.aload_n 0, 1) := by decide +kernel
theorem dX6_isAhead_8 : decode cX6_isAhead 8 = .ok (.iload_n 2, 1) := by decide +kernel
theorem dX6_isAhead_9 : decode cX6_isAhead 9 = .ok (.bipush 8, 2) := by decide +kernel
theorem dX6_isAhead_11 : decode cX6_isAhead 11 = .ok (.invokevirtual 92, 3) := by decide +kernel
theorem dX6_isAhead_14 : decode cX6_isAhead 14 = .ok (.if_icmp .eq 20, 3) := by decide +kernel
theorem dX6_isAhead_17 : decode cX6_isAhead 17 = .ok (.aload_n 0, 1) := by decide +kernel
theorem dX6_isAhead_18 : decode cX6_isAhead 18 = .ok (.iload_n 1, 1) := by decide +kernel
theorem dX6_isAhead_19 : decode cX6_isAhead 19 = .ok (.bipush 8, 2) := by decide +kernel
theorem dX6_isAhead_21 : decode cX6_isAhead 21 = .ok (.invokevirtual 92, 3) := by decide +kernel
theorem dX6_isAhead_24 : decode cX6_isAhead 24 = .ok (.iconst 1, 1) := by decide +kernel
theorem dX6_isAhead_25 : decode cX6_isAhead 25 = .ok (.if_icmp .ne 7, 3) := by decide +kernel
theorem dX6_isAhead_28 : decode cX6_isAhead 28 = .ok (.iconst 1, 1) := by decide +kernel
theorem dX6_isAhead_29 : decode cX6_isAhead 29 = .ok (.goto 4, 3) := by decide +kernel
theorem dX6_isAhead_32 : decode cX6_isAhead 32 = .ok (.iconst 0, 1) := by decide +kernel
theorem dX6_isAhead_33 : decode cX6_isAhead 33 = .ok (.ireturn, 1) := by decide +kernel
theorem dX6_isAhead_34 : decode cX6_isAhead 34 = .ok (.aload_n 0, 1) := by decide +kernel
theorem dX6_isAhead_35 : decode cX6_isAhead 35 = .ok (.iload_n 1, 1) := by decide +kernel
theorem dX6_isAhead_36 : decode cX6_isAhead 36 = .ok (.iconst 5, 1) := by decide +kernel
theorem dX6_isAhead_37 : decode cX6_isAhead 37 = .ok (.invokevirtual 92, 3) := by decide +kernel
theorem dX6_isAhead_40 : decode cX6_isAhead 40 = .ok (.aload_n 0, 1) := by decide +kernel
theorem dX6_isAhead_41 : decode cX6_isAhead 41 = .ok (.iload_n 2, 1) := by decide +kernel
theorem dX6_isAhead_42 : decode cX6_isAhead 42 = .ok (.iconst 5, 1) := by decide +kernel
theorem dX6_isAhead_43 : decode cX6_isAhead 43 = .ok (.invokevirtual 92, 3) := by decide +kernel
theorem dX6_isAhead_46 : decode cX6_isAhead 46 = .ok (.if_icmp .eq 26, 3) := by decide +kernel
theorem dX6_isAhead_49 : decode cX6_isAhead 49 = .ok (.aload_n 0, 1) := by decide +kernel
theorem dX6_isAhead_50 : decode cX6_isAhead 50 = .ok (.iload_n 1, 1) := by decide +kernel
theorem dX6_isAhead_51 : decode cX6_isAhead 51 = .ok (.iconst 5, 1) := by decide +kernel
theorem dX6_isAhead_52 : decode cX6_isAhead 52 = .ok (.invokevirtual 92, 3) := by decide +kernel
theorem dX6_isAhead_55 : decode cX6_isAhead 55 = .ok (.aload_n 0, 1) := by decide +kernel
theorem dX6_isAhead_56 : decode cX6_isAhead 56 = .ok (.iload_n 2, 1) := by decide +kernel
theorem dX6_isAhead_57 : decode cX6_isAhead 57 = .ok (.iconst 5, 1) := by decide +kernel
theorem dX6_isAhead_58 : decode cX6_isAhead 58 = .ok (.invokevirtual 92, 3) := by decide +kernel
theorem dX6_isAhead_61 : decode cX6_isAhead 61 = .ok (.if_icmp .le 7, 3) := by decide +kernel
theorem dX6_isAhead_64 : decode cX6_isAhead 64 = .ok (.iconst 1, 1) := by decide +kernel
theorem dX6_isAhead_65 : decode cX6_isAhead 65 = .ok (.goto 17, 3) := by decide +kernel
theorem dX6_isAhead_68 : decode cX6_isAhead 68 = .ok (.iconst 0, 1) := by decide +kernel
theorem dX6_isAhead_69 : decode cX6_isAhead 69 = .ok (.goto 13, 3) := by decide +kernel
theorem dX6_isAhead_72 : decode cX6_isAhead 72 = .ok (.iload_n 1, 1) := by decide +kernel
theorem dX6_isAhead_73 : decode cX6_isAhead 73 = .ok (.iload_n 2, 1) := by decide +kernel
theorem dX6_isAhead_74 : decode cX6_isAhead 74 = .ok (.if_icmp .ge 7, 3) := by decide +kernel
theorem dX6_isAhead_77 : decode cX6_isAhead 77 = .ok (.iconst 1, 1) := by decide +kernel
theorem dX6_isAhead_78 : decode cX6_isAhead 78 = .ok (.goto 4, 3) := by decide +kernel
theorem dX6_isAhead_81 : decode cX6_isAhead 81 = .ok (.iconst 0, 1) := by decide +kernel
theorem dX6_isAhead_82 : decode cX6_isAhead 82 = .ok (.ireturn, 1) := by decide +kernel
theorem dX6_ranks_0 : decode cX6_ranks 0 = .ok (.aload_n 0, 1) := by decide +kernel
theorem dX6_ranks_1 : decode cX6_ranks 1 = .ok (.iconst 0, 1) := by decide +kernel
theorem dX6_ranks_2 : decode cX6_ranks 2 = .ok (.putfield 54, 3) := by decide +kernel
theorem dX6_ranks_5 : decode cX6_ranks 5 = .ok (.iconst 0, 1) := by decide +kernel
theorem dX6_ranks_6 : decode cX6_ranks 6 = .ok (.istore_n 1, 1) := by decide +kernel
theorem dX6_ranks_7 : decode cX6_ranks 7 = .ok (.iload_n 1, 1) := by decide +kernel
theorem dX6_ranks_8 : decode cX6_ranks 8 = .ok (.bipush 12, 2) := by decide +kernel
theorem dX6_ranks_10 : decode cX6_ranks 10 = .ok (.if_icmp .ge 83, 3) := by decide +kernel
theorem dX6_ranks_13 : decode cX6_ranks 13 = .ok (.aload_n 0, 1) := by decide +kernel
theorem dX6_ranks_14 : decode cX6_ranks 14 = .ok (.iload_n 1, 1) := by decide +kernel
theorem dX6_ranks_15 : decode cX6_ranks 15 = .ok (.iconst 0, 1) := by decide +kernel
theorem dX6_ranks_16 : decode cX6_ranks 16 = .ok (.invokevirtual 92, 3) := by decide +kernel
theorem dX6_ranks_19 : decode cX6_ranks 19 = .ok (.ifCond .ne 6, 3) := by decide +kernel
theorem dX6_ranks_22 : decode cX6_ranks 22 = .ok (.goto 65, 3) := by decide +kernel
theorem dX6_ranks_25 : decode cX6_ranks 25 = .ok (.aload_n 0, 1) := by decide +kernel
theorem dX6_ranks_26 : decode cX6_ranks 26 = .ok (.getfield 54, 3) := by decide +kernel
theorem dX6_ranks_29 : decode cX6_ranks 29 = .ok (.istore_n 2, 1) := by decide +kernel
theorem dX6_ranks_30 : decode cX6_ranks 30 = .ok (.iload_n 2, 1) := by decide +kernel
theorem dX6_ranks_31 : decode cX6_ranks 31 = .ok (.ifCond .le 39, 3) := by decide +kernel
theorem dX6_ranks_34 : decode cX6_ranks 34 = .ok (.aload_n 0, 1) := by decide +kernel
theorem dX6_ranks_35 : decode cX6_ranks 35 = .ok (.iload_n 1, 1) := by decide +kernel
theorem dX6_ranks_36 : decode cX6_ranks 36 = .ok (.aload_n 0, 1) := by decide +kernel
theorem dX6_ranks_37 : decode cX6_ranks 37 = .ok (.getfield 39, 3) := by decide +kernel
theorem dX6_ranks_40 : decode cX6_ranks 40 = .ok (.iload_n 2, 1) := by decide +kernel
theorem dX6_ranks_41 : decode cX6_ranks 41 = .ok (.iconst 1, 1) := by decide +kernel
theorem dX6_ranks_42 : decode cX6_ranks 42 = .ok (.isub, 1) := by decide +kernel
theorem dX6_ranks_43 : decode cX6_ranks 43 = .ok (.iaload, 1) := by decide +kernel
theorem dX6_ranks_44 : decode cX6_ranks 44 = .ok (.invokevirtual 148, 3) := by decide +kernel
theorem dX6_ranks_47 : decode cX6_ranks 47 = .ok (.ifCond .eq 23, 3) := by decide +kernel
theorem dX6_ranks_50 : decode cX6_ranks 50 = .ok (.aload_n 0, 1) := by decide +kernel
theorem dX6_ranks_51 : decode cX6_ranks 51 = .ok (.getfield 39, 3) := by decide +kernel
theorem dX6_ranks_54 : decode cX6_ranks 54 = .ok (.iload_n 2, 1) := by decide +kernel
theorem dX6_ranks_55 : decode cX6_ranks 55 = .ok (.aload_n 0, 1) := by decide +kernel
theorem dX6_ranks_56 : decode cX6_ranks 56 = .ok (.getfield 39, 3) := by decide +kernel
theorem dX6_ranks_59 : decode cX6_ranks 59 = .ok (.iload_n 2, 1) := by decide +kernel
theorem dX6_ranks_60 : decode cX6_ranks 60 = .ok (.iconst 1, 1) := by decide +kernel
theorem dX6_ranks_61 : decode cX6_ranks 61 = .ok (.isub, 1) := by decide +kernel
theorem dX6_ranks_62 : decode cX6_ranks 62 = .ok (.iaload, 1) := by decide +kernel
theorem dX6_ranks_63 : decode cX6_ranks 63 = .ok (.iastore, 1) := by decide +kernel
theorem dX6_ranks_64 : decode cX6_ranks 64 = .ok (.iinc 2 (-1), 3) := by decide +kernel
theorem dX6_ranks_67 : decode cX6_ranks 67 = .ok (.goto (-37), 3) := by decide +kernel
theorem dX6_ranks_70 : decode cX6_ranks 70 = .ok (.aload_n 0, 1) := by decide +kernel
theorem dX6_ranks_71 : decode cX6_ranks 71 = .ok (.getfield 39, 3) := by decide +kernel
theorem dX6_ranks_74 : decode cX6_ranks 74 = .ok (.iload_n 2, 1) := by decide +kernel
theorem dX6_ranks_75 : decode cX6_ranks 75 = .ok (.iload_n 1, 1) := by decide +kernel
theorem dX6_ranks_76 : decode cX6_ranks 76 = .ok (.iastore, 1) := by decide +kernel
theorem dX6_ranks_77 : decode cX6_ranks 77 = .ok (.aload_n 0, 1) := by decide +kernel
theorem dX6_ranks_78 : decode cX6_ranks 78 = .ok (.dup, 1) := by decide +kernel
theorem dX6_ranks_79 : decode cX6_ranks 79 = .ok (.getfield 54, 3) := by decide +kernel
theorem dX6_ranks_82 : decode cX6_ranks 82 = .ok (.iconst 1, 1) := by decide +kernel
theorem dX6_ranks_83 : decode cX6_ranks 83 = .ok (.iadd, 1) := by decide +kernel
theorem dX6_ranks_84 : decode cX6_ranks 84 = .ok (.putfield 54, 3) := by decide +kernel
theorem dX6_ranks_87 : decode cX6_ranks 87 = .ok (.iinc 1 1, 3) := by decide +kernel
theorem dX6_ranks_90 : decode cX6_ranks 90 = .ok (.goto (-83), 3) := by decide +kernel
theorem dX6_ranks_93 : decode cX6_ranks 93 = .ok (.return_, 1) := by decide +kernel
theorem dX6_isFree_0 : decode cX6_isFree 0 = .ok (.iload_n 2, 1) := by decide +kernel
theorem dX6_isFree_1 : decode cX6_isFree 1 = .ok (.iload 4, 2) := by decide +kernel
theorem dX6_isFree_3 : decode cX6_isFree 3 = .ok (.iadd, 1) := by decide +kernel
theorem dX6_isFree_4 : decode cX6_isFree 4 = .ok (.iconst 5, 1) := by decide +kernel
theorem dX6_isFree_5 : decode cX6_isFree 5 = .ok (.if_icmp .gt 12, 3) := by decide +kernel
theorem dX6_isFree_8 : decode cX6_isFree 8 = .ok (.iload_n 3, 1) := by decide +kernel
theorem dX6_isFree_9 : decode cX6_isFree 9 = .ok (.iload 5, 2) := by decide +kernel
theorem dX6_isFree_11 : decode cX6_isFree 11 = .ok (.iadd, 1) := by decide +kernel
theorem dX6_isFree_12 : decode cX6_isFree 12 = .ok (.bipush 24, 2) := by decide +kernel
theorem dX6_isFree_14 : decode cX6_isFree 14 = .ok (.if_icmp .le 5, 3) := by decide +kernel
theorem dX6_isFree_17 : decode cX6_isFree 17 = .ok (.iconst 0, 1) := by decide +kernel
theorem dX6_isFree_18 : decode cX6_isFree 18 = .ok (.ireturn, 1) := by decide +kernel
theorem dX6_isFree_19 : decode cX6_isFree 19 = .ok (.iload_n 3, 1) := by decide +kernel
theorem dX6_isFree_20 : decode cX6_isFree 20 = .ok (.istore 6, 2) := by decide +kernel
theorem dX6_isFree_22 : decode cX6_isFree 22 = .ok (.iload 6, 2) := by decide +kernel
theorem dX6_isFree_24 : decode cX6_isFree 24 = .ok (.iload_n 3, 1) := by decide +kernel
theorem dX6_isFree_25 : decode cX6_isFree 25 = .ok (.iload 5, 2) := by decide +kernel
theorem dX6_isFree_27 : decode cX6_isFree 27 = .ok (.iadd, 1) := by decide +kernel
theorem dX6_isFree_28 : decode cX6_isFree 28 = .ok (.if_icmp .ge 45, 3) := by decide +kernel
theorem dX6_isFree_31 : decode cX6_isFree 31 = .ok (.iload_n 2, 1) := by decide +kernel
theorem dX6_isFree_32 : decode cX6_isFree 32 = .ok (.istore 7, 2) := by decide +kernel
theorem dX6_isFree_34 : decode cX6_isFree 34 = .ok (.iload 7, 2) := by decide +kernel
theorem dX6_isFree_36 : decode cX6_isFree 36 = .ok (.iload_n 2, 1) := by decide +kernel
theorem dX6_isFree_37 : decode cX6_isFree 37 = .ok (.iload 4, 2) := by decide +kernel
theorem dX6_isFree_39 : decode cX6_isFree 39 = .ok (.iadd, 1) := by decide +kernel
theorem dX6_isFree_40 : decode cX6_isFree 40 = .ok (.if_icmp .ge 27, 3) := by decide +kernel
theorem dX6_isFree_43 : decode cX6_isFree 43 = .ok (.aload_n 0, 1) := by decide +kernel
theorem dX6_isFree_44 : decode cX6_isFree 44 = .ok (.getfield 33, 3) := by decide +kernel
theorem dX6_isFree_47 : decode cX6_isFree 47 = .ok (.iload_n 1, 1) := by decide +kernel
theorem dX6_isFree_48 : decode cX6_isFree 48 = .ok (.iload 7, 2) := by decide +kernel
theorem dX6_isFree_50 : decode cX6_isFree 50 = .ok (.iload 6, 2) := by decide +kernel
theorem dX6_isFree_52 : decode cX6_isFree 52 = .ok (.invokestatic 151, 3) := by decide +kernel
theorem dX6_isFree_55 : decode cX6_isFree 55 = .ok (.iaload, 1) := by decide +kernel
theorem dX6_isFree_56 : decode cX6_isFree 56 = .ok (.ifCond .eq 5, 3) := by decide +kernel
theorem dX6_isFree_59 : decode cX6_isFree 59 = .ok (.iconst 0, 1) := by decide +kernel
theorem dX6_isFree_60 : decode cX6_isFree 60 = .ok (.ireturn, 1) := by decide +kernel
theorem dX6_isFree_61 : decode cX6_isFree 61 = .ok (.iinc 7 1, 3) := by decide +kernel
theorem dX6_isFree_64 : decode cX6_isFree 64 = .ok (.goto (-30), 3) := by decide +kernel
theorem dX6_isFree_67 : decode cX6_isFree 67 = .ok (.iinc 6 1, 3) := by decide +kernel
theorem dX6_isFree_70 : decode cX6_isFree 70 = .ok (.goto (-48), 3) := by decide +kernel
theorem dX6_isFree_73 : decode cX6_isFree 73 = .ok (.iconst 1, 1) := by decide +kernel
theorem dX6_isFree_74 : decode cX6_isFree 74 = .ok (.ireturn, 1) := by decide +kernel
theorem dX6_block_0 : decode cX6_block 0 = .ok (.iconst 0, 1) := by decide +kernel
theorem dX6_block_1 : decode cX6_block 1 = .ok (.istore 4, 2) := by decide +kernel
theorem dX6_block_3 : decode cX6_block 3 = .ok (.iload 4, 2) := by decide +kernel
theorem dX6_block_5 : decode cX6_block 5 = .ok (.iload_n 3, 1) := by decide +kernel
theorem dX6_block_6 : decode cX6_block 6 = .ok (.iadd, 1) := by decide +kernel
theorem dX6_block_7 : decode cX6_block 7 = .ok (.bipush 24, 2) := by decide +kernel
theorem dX6_block_9 : decode cX6_block 9 = .ok (.if_icmp .gt 48, 3) := by decide +kernel
theorem dX6_block_12 : decode cX6_block 12 = .ok (.iconst 0, 1) := by decide +kernel
theorem dX6_block_13 : decode cX6_block 13 = .ok (.istore 5, 2) := by decide +kernel
theorem dX6_block_15 : decode cX6_block 15 = .ok (.iload 5, 2) := by decide +kernel
theorem dX6_block_17 : decode cX6_block 17 = .ok (.iload_n 2, 1) := by decide +kernel
theorem dX6_block_18 : decode cX6_block 18 = .ok (.iadd, 1) := by decide +kernel
theorem dX6_block_19 : decode cX6_block 19 = .ok (.iconst 5, 1) := by decide +kernel
theorem dX6_block_20 : decode cX6_block 20 = .ok (.if_icmp .gt 31, 3) := by decide +kernel
theorem dX6_block_23 : decode cX6_block 23 = .ok (.aload_n 0, 1) := by decide +kernel
theorem dX6_block_24 : decode cX6_block 24 = .ok (.iload_n 1, 1) := by decide +kernel
theorem dX6_block_25 : decode cX6_block 25 = .ok (.iload 5, 2) := by decide +kernel
theorem dX6_block_27 : decode cX6_block 27 = .ok (.iload 4, 2) := by decide +kernel
theorem dX6_block_29 : decode cX6_block 29 = .ok (.iload_n 2, 1) := by decide +kernel
theorem dX6_block_30 : decode cX6_block 30 = .ok (.iload_n 3, 1) := by decide +kernel
theorem dX6_block_31 : decode cX6_block 31 = .ok (.invokevirtual 154, 3) := by decide +kernel
theorem dX6_block_34 : decode cX6_block 34 = .ok (.ifCond .eq 11, 3) := by decide +kernel
theorem dX6_block_37 : decode cX6_block 37 = .ok (.iload 4, 2) := by decide +kernel
theorem dX6_block_39 : decode cX6_block 39 = .ok (.iconst 5, 1) := by decide +kernel
theorem dX6_block_40 : decode cX6_block 40 = .ok (.imul, 1) := by decide +kernel
theorem dX6_block_41 : decode cX6_block 41 = .ok (.iload 5, 2) := by decide +kernel
theorem dX6_block_43 : decode cX6_block 43 = .ok (.iadd, 1) := by decide +kernel
theorem dX6_block_44 : decode cX6_block 44 = .ok (.ireturn, 1) := by decide +kernel
theorem dX6_block_45 : decode cX6_block 45 = .ok (.iinc 5 1, 3) := by decide +kernel
theorem dX6_block_48 : decode cX6_block 48 = .ok (.goto (-33), 3) := by decide +kernel
theorem dX6_block_51 : decode cX6_block 51 = .ok (.iinc 4 1, 3) := by decide +kernel
theorem dX6_block_54 : decode cX6_block 54 = .ok (.goto (-51), 3) := by decide +kernel
theorem dX6_block_57 : decode cX6_block 57 = .ok (.iconst (-1), 1) := by decide +kernel
theorem dX6_block_58 : decode cX6_block 58 = .ok (.ireturn, 1) := by decide +kernel
theorem dX6_fills_0 : decode cX6_fills 0 = .ok (.iload_n 3, 1) := by decide +kernel
theorem dX6_fills_1 : decode cX6_fills 1 = .ok (.istore 8, 2) := by decide +kernel
theorem dX6_fills_3 : decode cX6_fills 3 = .ok (.iload 8, 2) := by decide +kernel
theorem dX6_fills_5 : decode cX6_fills 5 = .ok (.iload_n 3, 1) := by decide +kernel
theorem dX6_fills_6 : decode cX6_fills 6 = .ok (.iload 5, 2) := by decide +kernel
theorem dX6_fills_8 : decode cX6_fills 8 = .ok (.iadd, 1) := by decide +kernel
theorem dX6_fills_9 : decode cX6_fills 9 = .ok (.if_icmp .ge 57, 3) := by decide +kernel
theorem dX6_fills_12 : decode cX6_fills 12 = .ok (.iload_n 2, 1) := by decide +kernel
theorem dX6_fills_13 : decode cX6_fills 13 = .ok (.istore 9, 2) := by decide +kernel
theorem dX6_fills_15 : decode cX6_fills 15 = .ok (.iload 9, 2) := by decide +kernel
theorem dX6_fills_17 : decode cX6_fills 17 = .ok (.iload_n 2, 1) := by decide +kernel
theorem dX6_fills_18 : decode cX6_fills 18 = .ok (.iload 4, 2) := by decide +kernel
theorem dX6_fills_20 : decode cX6_fills 20 = .ok (.iadd, 1) := by decide +kernel
theorem dX6_fills_21 : decode cX6_fills 21 = .ok (.if_icmp .ge 39, 3) := by decide +kernel
theorem dX6_fills_24 : decode cX6_fills 24 = .ok (.aload_n 0, 1) := by decide +kernel
theorem dX6_fills_25 : decode cX6_fills 25 = .ok (.getfield 33, 3) := by decide +kernel
theorem dX6_fills_28 : decode cX6_fills 28 = .ok (.iload_n 1, 1) := by decide +kernel
theorem dX6_fills_29 : decode cX6_fills 29 = .ok (.iload 9, 2) := by decide +kernel
theorem dX6_fills_31 : decode cX6_fills 31 = .ok (.iload 8, 2) := by decide +kernel
theorem dX6_fills_33 : decode cX6_fills 33 = .ok (.invokestatic 151, 3) := by decide +kernel
theorem dX6_fills_36 : decode cX6_fills 36 = .ok (.iload 6, 2) := by decide +kernel
theorem dX6_fills_38 : decode cX6_fills 38 = .ok (.iastore, 1) := by decide +kernel
theorem dX6_fills_39 : decode cX6_fills 39 = .ok (.aload_n 0, 1) := by decide +kernel
theorem dX6_fills_40 : decode cX6_fills 40 = .ok (.getfield 36, 3) := by decide +kernel
theorem dX6_fills_43 : decode cX6_fills 43 = .ok (.iload_n 1, 1) := by decide +kernel
theorem dX6_fills_44 : decode cX6_fills 44 = .ok (.iload 9, 2) := by decide +kernel
theorem dX6_fills_46 : decode cX6_fills 46 = .ok (.iload 8, 2) := by decide +kernel
theorem dX6_fills_48 : decode cX6_fills 48 = .ok (.invokestatic 151, 3) := by decide +kernel
theorem dX6_fills_51 : decode cX6_fills 51 = .ok (.iload 7, 2) := by decide +kernel
theorem dX6_fills_53 : decode cX6_fills 53 = .ok (.iastore, 1) := by decide +kernel
theorem dX6_fills_54 : decode cX6_fills 54 = .ok (.iinc 9 1, 3) := by decide +kernel
theorem dX6_fills_57 : decode cX6_fills 57 = .ok (.goto (-42), 3) := by decide +kernel
theorem dX6_fills_60 : decode cX6_fills 60 = .ok (.iinc 8 1, 3) := by decide +kernel
theorem dX6_fills_63 : decode cX6_fills 63 = .ok (.goto (-60), 3) := by decide +kernel
theorem dX6_fills_66 : decode cX6_fills 66 = .ok (.return_, 1) := by decide +kernel
theorem dX6_head_0 : decode cX6_head 0 = .ok (.aload_n 0, 1) := by decide +kernel
theorem dX6_head_1 : decode cX6_head 1 = .ok (.iload_n 1, 1) := by decide +kernel
theorem dX6_head_2 : decode cX6_head 2 = .ok (.iconst 3, 1) := by decide +kernel
theorem dX6_head_3 : decode cX6_head 3 = .ok (.invokevirtual 92, 3) := by decide +kernel
theorem dX6_head_6 : decode cX6_head 6 = .ok (.aload_n 0, 1) := by decide +kernel
theorem dX6_head_7 : decode cX6_head 7 = .ok (.iload_n 1, 1) := by decide +kernel
theorem dX6_head_8 : decode cX6_head 8 = .ok (.bipush 6, 2) := by decide +kernel
theorem dX6_head_10 : decode cX6_head 10 = .ok (.invokevirtual 92, 3) := by decide +kernel
theorem dX6_head_13 : decode cX6_head 13 = .ok (.iadd, 1) := by decide +kernel
theorem dX6_head_14 : decode cX6_head 14 = .ok (.aload_n 0, 1) := by decide +kernel
theorem dX6_head_15 : decode cX6_head 15 = .ok (.iload_n 1, 1) := by decide +kernel
theorem dX6_head_16 : decode cX6_head 16 = .ok (.bipush 7, 2) := by decide +kernel
theorem dX6_head_18 : decode cX6_head 18 = .ok (.invokevirtual 92, 3) := by decide +kernel
theorem dX6_head_21 : decode cX6_head 21 = .ok (.iadd, 1) := by decide +kernel
theorem dX6_head_22 : decode cX6_head 22 = .ok (.ireturn, 1) := by decide +kernel
theorem dX6_goesOn_0 : decode cX6_goesOn 0 = .ok (.iload_n 1, 1) := by decide +kernel
theorem dX6_goesOn_1 : decode cX6_goesOn 1 = .ok (.iconst 1, 1) := by decide +kernel
theorem dX6_goesOn_2 : decode cX6_goesOn 2 = .ok (.iadd, 1) := by decide +kernel
theorem dX6_goesOn_3 : decode cX6_goesOn 3 = .ok (.istore_n 2, 1) := by decide +kernel
theorem dX6_goesOn_4 : decode cX6_goesOn 4 = .ok (.iload_n 2, 1) := by decide +kernel
theorem dX6_goesOn_5 : decode cX6_goesOn 5 = .ok (.iconst 4, 1) := by decide +kernel
theorem dX6_goesOn_6 : decode cX6_goesOn 6 = .ok (.if_icmp .ge 21, 3) := by decide +kernel
theorem dX6_goesOn_9 : decode cX6_goesOn 9 = .ok (.aload_n 0, 1) := by decide +kernel
theorem dX6_goesOn_10 : decode cX6_goesOn 10 = .ok (.iload_n 2, 1) := by decide +kernel
theorem dX6_goesOn_11 : decode cX6_goesOn 11 = .ok (.iconst 1, 1) := by decide +kernel
theorem dX6_goesOn_12 : decode cX6_goesOn 12 = .ok (.iconst 3, 1) := by decide +kernel
theorem dX6_goesOn_13 : decode cX6_goesOn 13 = .ok (.invokevirtual 157, 3) := by decide +kernel
theorem dX6_goesOn_16 : decode cX6_goesOn 16 = .ok (.ifCond .lt 5, 3) := by decide +kernel
theorem dX6_goesOn_19 : decode cX6_goesOn 19 = .ok (.iload_n 2, 1) := by decide +kernel
theorem dX6_goesOn_20 : decode cX6_goesOn 20 = .ok (.ireturn, 1) := by decide +kernel
theorem dX6_goesOn_21 : decode cX6_goesOn 21 = .ok (.iinc 2 1, 3) := by decide +kernel
theorem dX6_goesOn_24 : decode cX6_goesOn 24 = .ok (.goto (-20), 3) := by decide +kernel
theorem dX6_goesOn_27 : decode cX6_goesOn 27 = .ok (.iconst (-1), 1) := by decide +kernel
theorem dX6_goesOn_28 : decode cX6_goesOn 28 = .ok (.ireturn, 1) := by decide +kernel
theorem dX6_notes_0 : decode cX6_notes 0 = .ok (.bipush 8, 2) := by decide +kernel
theorem dX6_notes_2 : decode cX6_notes 2 = .ok (.iconst 4, 1) := by decide +kernel
theorem dX6_notes_3 : decode cX6_notes 3 = .ok (.iload_n 1, 1) := by decide +kernel
theorem dX6_notes_4 : decode cX6_notes 4 = .ok (.imul, 1) := by decide +kernel
theorem dX6_notes_5 : decode cX6_notes 5 = .ok (.aload_n 0, 1) := by decide +kernel
theorem dX6_notes_6 : decode cX6_notes 6 = .ok (.getfield 45, 3) := by decide +kernel
theorem dX6_notes_9 : decode cX6_notes 9 = .ok (.iload_n 1, 1) := by decide +kernel
theorem dX6_notes_10 : decode cX6_notes 10 = .ok (.iaload, 1) := by decide +kernel
theorem dX6_notes_11 : decode cX6_notes 11 = .ok (.iadd, 1) := by decide +kernel
theorem dX6_notes_12 : decode cX6_notes 12 = .ok (.imul, 1) := by decide +kernel
theorem dX6_notes_13 : decode cX6_notes 13 = .ok (.istore 10, 2) := by decide +kernel
theorem dX6_notes_15 : decode cX6_notes 15 = .ok (.aload_n 0, 1) := by decide +kernel
theorem dX6_notes_16 : decode cX6_notes 16 = .ok (.getfield 48, 3) := by decide +kernel
theorem dX6_notes_19 : decode cX6_notes 19 = .ok (.iload 10, 2) := by decide +kernel
theorem dX6_notes_21 : decode cX6_notes 21 = .ok (.iload_n 2, 1) := by decide +kernel
theorem dX6_notes_22 : decode cX6_notes 22 = .ok (.iastore, 1) := by decide +kernel
theorem dX6_notes_23 : decode cX6_notes 23 = .ok (.aload_n 0, 1) := by decide +kernel
theorem dX6_notes_24 : decode cX6_notes 24 = .ok (.getfield 48, 3) := by decide +kernel
theorem dX6_notes_27 : decode cX6_notes 27 = .ok (.iload 10, 2) := by decide +kernel
theorem dX6_notes_29 : decode cX6_notes 29 = .ok (.iconst 1, 1) := by decide +kernel
theorem dX6_notes_30 : decode cX6_notes 30 = .ok (.iadd, 1) := by decide +kernel
theorem dX6_notes_31 : decode cX6_notes 31 = .ok (.iload_n 3, 1) := by decide +kernel
theorem dX6_notes_32 : decode cX6_notes 32 = .ok (.iastore, 1) := by decide +kernel
theorem dX6_notes_33 : decode cX6_notes 33 = .ok (.aload_n 0, 1) := by decide +kernel
theorem dX6_notes_34 : decode cX6_notes 34 = .ok (.getfield 48, 3) := by decide +kernel
theorem dX6_notes_37 : decode cX6_notes 37 = .ok (.iload 10, 2) := by decide +kernel
theorem dX6_notes_39 : decode cX6_notes 39 = .ok (.iconst 2, 1) := by decide +kernel
theorem dX6_notes_40 : decode cX6_notes 40 = .ok (.iadd, 1) := by decide +kernel
theorem dX6_notes_41 : decode cX6_notes 41 = .ok (.iload 4, 2) := by decide +kernel
theorem dX6_notes_43 : decode cX6_notes 43 = .ok (.iastore, 1) := by decide +kernel
theorem dX6_notes_44 : decode cX6_notes 44 = .ok (.aload_n 0, 1) := by decide +kernel
theorem dX6_notes_45 : decode cX6_notes 45 = .ok (.getfield 48, 3) := by decide +kernel
theorem dX6_notes_48 : decode cX6_notes 48 = .ok (.iload 10, 2) := by decide +kernel
theorem dX6_notes_50 : decode cX6_notes 50 = .ok (.iconst 3, 1) := by decide +kernel
theorem dX6_notes_51 : decode cX6_notes 51 = .ok (.iadd, 1) := by decide +kernel
theorem dX6_notes_52 : decode cX6_notes 52 = .ok (.iload 5, 2) := by decide +kernel
theorem dX6_notes_54 : decode cX6_notes 54 = .ok (.iastore, 1) := by decide +kernel
theorem dX6_notes_55 : decode cX6_notes 55 = .ok (.aload_n 0, 1) := by decide +kernel
theorem dX6_notes_56 : decode cX6_notes 56 = .ok (.getfield 48, 3) := by decide +kernel
theorem dX6_notes_59 : decode cX6_notes 59 = .ok (.iload 10, 2) := by decide +kernel
theorem dX6_notes_61 : decode cX6_notes 61 = .ok (.iconst 4, 1) := by decide +kernel
theorem dX6_notes_62 : decode cX6_notes 62 = .ok (.iadd, 1) := by decide +kernel
theorem dX6_notes_63 : decode cX6_notes 63 = .ok (.iload 6, 2) := by decide +kernel
theorem dX6_notes_65 : decode cX6_notes 65 = .ok (.iastore, 1) := by decide +kernel
theorem dX6_notes_66 : decode cX6_notes 66 = .ok (.aload_n 0, 1) := by decide +kernel
theorem dX6_notes_67 : decode cX6_notes 67 = .ok (.getfield 48, 3) := by decide +kernel
theorem dX6_notes_70 : decode cX6_notes 70 = .ok (.iload 10, 2) := by decide +kernel
theorem dX6_notes_72 : decode cX6_notes 72 = .ok (.iconst 5, 1) := by decide +kernel
theorem dX6_notes_73 : decode cX6_notes 73 = .ok (.iadd, 1) := by decide +kernel
theorem dX6_notes_74 : decode cX6_notes 74 = .ok (.iload 7, 2) := by decide +kernel
theorem dX6_notes_76 : decode cX6_notes 76 = .ok (.iastore, 1) := by decide +kernel
theorem dX6_notes_77 : decode cX6_notes 77 = .ok (.aload_n 0, 1) := by decide +kernel
theorem dX6_notes_78 : decode cX6_notes 78 = .ok (.getfield 48, 3) := by decide +kernel
theorem dX6_notes_81 : decode cX6_notes 81 = .ok (.iload 10, 2) := by decide +kernel
theorem dX6_notes_83 : decode cX6_notes 83 = .ok (.bipush 6, 2) := by decide +kernel
theorem dX6_notes_85 : decode cX6_notes 85 = .ok (.iadd, 1) := by decide +kernel
theorem dX6_notes_86 : decode cX6_notes 86 = .ok (.iload 8, 2) := by decide +kernel
theorem dX6_notes_88 : decode cX6_notes 88 = .ok (.iastore, 1) := by decide +kernel
theorem dX6_notes_89 : decode cX6_notes 89 = .ok (.aload_n 0, 1) := by decide +kernel
theorem dX6_notes_90 : decode cX6_notes 90 = .ok (.getfield 48, 3) := by decide +kernel
theorem dX6_notes_93 : decode cX6_notes 93 = .ok (.iload 10, 2) := by decide +kernel
theorem dX6_notes_95 : decode cX6_notes 95 = .ok (.bipush 7, 2) := by decide +kernel
theorem dX6_notes_97 : decode cX6_notes 97 = .ok (.iadd, 1) := by decide +kernel
theorem dX6_notes_98 : decode cX6_notes 98 = .ok (.iload 9, 2) := by decide +kernel
theorem dX6_notes_100 : decode cX6_notes 100 = .ok (.ifCond .eq 7, 3) := by decide +kernel
theorem dX6_notes_103 : decode cX6_notes 103 = .ok (.iconst 1, 1) := by decide +kernel
theorem dX6_notes_104 : decode cX6_notes 104 = .ok (.goto 4, 3) := by decide +kernel
theorem dX6_notes_107 : decode cX6_notes 107 = .ok (.iconst 0, 1) := by decide +kernel
theorem dX6_notes_108 : decode cX6_notes 108 = .ok (.iastore, 1) := by decide +kernel
theorem dX6_notes_109 : decode cX6_notes 109 = .ok (.aload_n 0, 1) := by decide +kernel
theorem dX6_notes_110 : decode cX6_notes 110 = .ok (.getfield 45, 3) := by decide +kernel
theorem dX6_notes_113 : decode cX6_notes 113 = .ok (.iload_n 1, 1) := by decide +kernel
theorem dX6_notes_114 : decode cX6_notes 114 = .ok (.dup2, 1) := by decide +kernel
theorem dX6_notes_115 : decode cX6_notes 115 = .ok (.iaload, 1) := by decide +kernel
theorem dX6_notes_116 : decode cX6_notes 116 = .ok (.iconst 1, 1) := by decide +kernel
theorem dX6_notes_117 : decode cX6_notes 117 = .ok (.iadd, 1) := by decide +kernel
theorem dX6_notes_118 : decode cX6_notes 118 = .ok (.iastore, 1) := by decide +kernel
theorem dX6_notes_119 : decode cX6_notes 119 = .ok (.return_, 1) := by decide +kernel
theorem dX6_linesIn_0 : decode cX6_linesIn 0 = .ok (.aload_n 0, 1) := by decide +kernel
theorem dX6_linesIn_1 : decode cX6_linesIn 1 = .ok (.iload_n 2, 1) := by decide +kernel
theorem dX6_linesIn_2 : decode cX6_linesIn 2 = .ok (.iload_n 3, 1) := by decide +kernel
theorem dX6_linesIn_3 : decode cX6_linesIn 3 = .ok (.iload 4, 2) := by decide +kernel
theorem dX6_linesIn_5 : decode cX6_linesIn 5 = .ok (.iload 5, 2) := by decide +kernel
theorem dX6_linesIn_7 : decode cX6_linesIn 7 = .ok (.iload 6, 2) := by decide +kernel
theorem dX6_linesIn_9 : decode cX6_linesIn 9 = .ok (.bipush 8, 2) := by decide +kernel
theorem dX6_linesIn_11 : decode cX6_linesIn 11 = .ok (.iload_n 1, 1) := by decide +kernel
theorem dX6_linesIn_12 : decode cX6_linesIn 12 = .ok (.invokevirtual 160, 3) := by decide +kernel
theorem dX6_linesIn_15 : decode cX6_linesIn 15 = .ok (.iconst 0, 1) := by decide +kernel
theorem dX6_linesIn_16 : decode cX6_linesIn 16 = .ok (.istore 8, 2) := by decide +kernel
theorem dX6_linesIn_18 : decode cX6_linesIn 18 = .ok (.iload 8, 2) := by decide +kernel
theorem dX6_linesIn_20 : decode cX6_linesIn 20 = .ok (.iload 5, 2) := by decide +kernel
theorem dX6_linesIn_22 : decode cX6_linesIn 22 = .ok (.if_icmp .ge 48, 3) := by decide +kernel
theorem dX6_linesIn_25 : decode cX6_linesIn 25 = .ok (.iload 7, 2) := by decide +kernel
theorem dX6_linesIn_27 : decode cX6_linesIn 27 = .ok (.iload 5, 2) := by decide +kernel
theorem dX6_linesIn_29 : decode cX6_linesIn 29 = .ok (.idiv, 1) := by decide +kernel
theorem dX6_linesIn_30 : decode cX6_linesIn 30 = .ok (.iload 8, 2) := by decide +kernel
theorem dX6_linesIn_32 : decode cX6_linesIn 32 = .ok (.iload 7, 2) := by decide +kernel
theorem dX6_linesIn_34 : decode cX6_linesIn 34 = .ok (.iload 5, 2) := by decide +kernel
theorem dX6_linesIn_36 : decode cX6_linesIn 36 = .ok (.irem, 1) := by decide +kernel
theorem dX6_linesIn_37 : decode cX6_linesIn 37 = .ok (.if_icmp .ge 7, 3) := by decide +kernel
theorem dX6_linesIn_40 : decode cX6_linesIn 40 = .ok (.iconst 1, 1) := by decide +kernel
theorem dX6_linesIn_41 : decode cX6_linesIn 41 = .ok (.goto 4, 3) := by decide +kernel
theorem dX6_linesIn_44 : decode cX6_linesIn 44 = .ok (.iconst 0, 1) := by decide +kernel
theorem dX6_linesIn_45 : decode cX6_linesIn 45 = .ok (.iadd, 1) := by decide +kernel
theorem dX6_linesIn_46 : decode cX6_linesIn 46 = .ok (.istore 9, 2) := by decide +kernel
theorem dX6_linesIn_48 : decode cX6_linesIn 48 = .ok (.aload_n 0, 1) := by decide +kernel
theorem dX6_linesIn_49 : decode cX6_linesIn 49 = .ok (.iload_n 2, 1) := by decide +kernel
theorem dX6_linesIn_50 : decode cX6_linesIn 50 = .ok (.iload_n 3, 1) := by decide +kernel
theorem dX6_linesIn_51 : decode cX6_linesIn 51 = .ok (.iload 8, 2) := by decide +kernel
theorem dX6_linesIn_53 : decode cX6_linesIn 53 = .ok (.iadd, 1) := by decide +kernel
theorem dX6_linesIn_54 : decode cX6_linesIn 54 = .ok (.iload 4, 2) := by decide +kernel
theorem dX6_linesIn_56 : decode cX6_linesIn 56 = .ok (.iconst 1, 1) := by decide +kernel
theorem dX6_linesIn_57 : decode cX6_linesIn 57 = .ok (.iload 9, 2) := by decide +kernel
theorem dX6_linesIn_59 : decode cX6_linesIn 59 = .ok (.iconst 5, 1) := by decide +kernel
theorem dX6_linesIn_60 : decode cX6_linesIn 60 = .ok (.iload_n 1, 1) := by decide +kernel
theorem dX6_linesIn_61 : decode cX6_linesIn 61 = .ok (.invokevirtual 160, 3) := by decide +kernel
theorem dX6_linesIn_64 : decode cX6_linesIn 64 = .ok (.iinc 8 1, 3) := by decide +kernel
theorem dX6_linesIn_67 : decode cX6_linesIn 67 = .ok (.goto (-49), 3) := by decide +kernel
theorem dX6_linesIn_70 : decode cX6_linesIn 70 = .ok (.return_, 1) := by decide +kernel
theorem dX6_starts_0 : decode cX6_starts 0 = .ok (.iload_n 3, 1) := by decide +kernel
theorem dX6_starts_1 : decode cX6_starts 1 = .ok (.iconst 5, 1) := by decide +kernel
theorem dX6_starts_2 : decode cX6_starts 2 = .ok (.idiv, 1) := by decide +kernel
theorem dX6_starts_3 : decode cX6_starts 3 = .ok (.istore 4, 2) := by decide +kernel
theorem dX6_starts_5 : decode cX6_starts 5 = .ok (.iload_n 3, 1) := by decide +kernel
theorem dX6_starts_6 : decode cX6_starts 6 = .ok (.iconst 5, 1) := by decide +kernel
theorem dX6_starts_7 : decode cX6_starts 7 = .ok (.irem, 1) := by decide +kernel
theorem dX6_starts_8 : decode cX6_starts 8 = .ok (.istore 5, 2) := by decide +kernel
theorem dX6_starts_10 : decode cX6_starts 10 = .ok (.aload_n 0, 1) := by decide +kernel
theorem dX6_starts_11 : decode cX6_starts 11 = .ok (.iload_n 1, 1) := by decide +kernel
theorem dX6_starts_12 : decode cX6_starts 12 = .ok (.iconst 2, 1) := by decide +kernel
theorem dX6_starts_13 : decode cX6_starts 13 = .ok (.invokevirtual 92, 3) := by decide +kernel
theorem dX6_starts_16 : decode cX6_starts 16 = .ok (.istore 6, 2) := by decide +kernel
theorem dX6_starts_18 : decode cX6_starts 18 = .ok (.aload_n 0, 1) := by decide +kernel
theorem dX6_starts_19 : decode cX6_starts 19 = .ok (.iload_n 1, 1) := by decide +kernel
theorem dX6_starts_20 : decode cX6_starts 20 = .ok (.invokevirtual 164, 3) := by decide +kernel
theorem dX6_starts_23 : decode cX6_starts 23 = .ok (.istore 7, 2) := by decide +kernel
theorem dX6_starts_25 : decode cX6_starts 25 = .ok (.iconst 2, 1) := by decide +kernel
theorem dX6_starts_26 : decode cX6_starts 26 = .ok (.istore 8, 2) := by decide +kernel
theorem dX6_starts_28 : decode cX6_starts 28 = .ok (.aload_n 0, 1) := by decide +kernel
theorem dX6_starts_29 : decode cX6_starts 29 = .ok (.iload_n 2, 1) := by decide +kernel
theorem dX6_starts_30 : decode cX6_starts 30 = .ok (.iload 5, 2) := by decide +kernel
theorem dX6_starts_32 : decode cX6_starts 32 = .ok (.iload 4, 2) := by decide +kernel
theorem dX6_starts_34 : decode cX6_starts 34 = .ok (.iload 6, 2) := by decide +kernel
theorem dX6_starts_36 : decode cX6_starts 36 = .ok (.iload 7, 2) := by decide +kernel
theorem dX6_starts_38 : decode cX6_starts 38 = .ok (.iload 8, 2) := by decide +kernel
theorem dX6_starts_40 : decode cX6_starts 40 = .ok (.iadd, 1) := by decide +kernel
theorem dX6_starts_41 : decode cX6_starts 41 = .ok (.iconst 1, 1) := by decide +kernel
theorem dX6_starts_42 : decode cX6_starts 42 = .ok (.iadd, 1) := by decide +kernel
theorem dX6_starts_43 : decode cX6_starts 43 = .ok (.invokevirtual 154, 3) := by decide +kernel
theorem dX6_starts_46 : decode cX6_starts 46 = .ok (.ifCond .eq 9, 3) := by decide +kernel
theorem dX6_starts_49 : decode cX6_starts 49 = .ok (.iinc 8 1, 3) := by decide +kernel
theorem dX6_starts_52 : decode cX6_starts 52 = .ok (.goto (-24), 3) := by decide +kernel
theorem dX6_starts_55 : decode cX6_starts 55 = .ok (.aload_n 0, 1) := by decide +kernel
theorem dX6_starts_56 : decode cX6_starts 56 = .ok (.getfield 42, 3) := by decide +kernel
theorem dX6_starts_59 : decode cX6_starts 59 = .ok (.iload_n 1, 1) := by decide +kernel
theorem dX6_starts_60 : decode cX6_starts 60 = .ok (.iload_n 2, 1) := by decide +kernel
theorem dX6_starts_61 : decode cX6_starts 61 = .ok (.iastore, 1) := by decide +kernel
theorem dX6_starts_62 : decode cX6_starts 62 = .ok (.aload_n 0, 1) := by decide +kernel
theorem dX6_starts_63 : decode cX6_starts 63 = .ok (.getfield 51, 3) := by decide +kernel
theorem dX6_starts_66 : decode cX6_starts 66 = .ok (.iload_n 1, 1) := by decide +kernel
theorem dX6_starts_67 : decode cX6_starts 67 = .ok (.iload 8, 2) := by decide +kernel
theorem dX6_starts_69 : decode cX6_starts 69 = .ok (.iastore, 1) := by decide +kernel
theorem dX6_starts_70 : decode cX6_starts 70 = .ok (.aload_n 0, 1) := by decide +kernel
theorem dX6_starts_71 : decode cX6_starts 71 = .ok (.iload_n 1, 1) := by decide +kernel
theorem dX6_starts_72 : decode cX6_starts 72 = .ok (.iconst 4, 1) := by decide +kernel
theorem dX6_starts_73 : decode cX6_starts 73 = .ok (.invokevirtual 92, 3) := by decide +kernel
theorem dX6_starts_76 : decode cX6_starts 76 = .ok (.istore 9, 2) := by decide +kernel
theorem dX6_starts_78 : decode cX6_starts 78 = .ok (.iload 9, 2) := by decide +kernel
theorem dX6_starts_80 : decode cX6_starts 80 = .ok (.iload 6, 2) := by decide +kernel
theorem dX6_starts_82 : decode cX6_starts 82 = .ok (.iload 8, 2) := by decide +kernel
theorem dX6_starts_84 : decode cX6_starts 84 = .ok (.imul, 1) := by decide +kernel
theorem dX6_starts_85 : decode cX6_starts 85 = .ok (.if_icmp .le 11, 3) := by decide +kernel
theorem dX6_starts_88 : decode cX6_starts 88 = .ok (.aload_n 0, 1) := by decide +kernel
theorem dX6_starts_89 : decode cX6_starts 89 = .ok (.iload_n 2, 1) := by decide +kernel
theorem dX6_starts_90 : decode cX6_starts 90 = .ok (.invokevirtual 167, 3) := by decide +kernel
theorem dX6_starts_93 : decode cX6_starts 93 = .ok (.goto 4, 3) := by decide +kernel
theorem dX6_starts_96 : decode cX6_starts 96 = .ok (.iconst (-1), 1) := by decide +kernel
theorem dX6_starts_97 : decode cX6_starts 97 = .ok (.istore 10, 2) := by decide +kernel
theorem dX6_starts_99 : decode cX6_starts 99 = .ok (.iload 10, 2) := by decide +kernel
theorem dX6_starts_101 : decode cX6_starts 101 = .ok (.ifCond .lt 7, 3) := by decide +kernel
theorem dX6_starts_104 : decode cX6_starts 104 = .ok (.iconst 1, 1) := by decide +kernel
theorem dX6_starts_105 : decode cX6_starts 105 = .ok (.goto 4, 3) := by decide +kernel
theorem dX6_starts_108 : decode cX6_starts 108 = .ok (.iconst 0, 1) := by decide +kernel
theorem dX6_starts_109 : decode cX6_starts 109 = .ok (.istore 11, 2) := by decide +kernel
theorem dX6_starts_111 : decode cX6_starts 111 = .ok (.iload 11, 2) := by decide +kernel
theorem dX6_starts_113 : decode cX6_starts 113 = .ok (.ifCond .eq 13, 3) := by decide +kernel
theorem dX6_starts_116 : decode cX6_starts 116 = .ok (.iload 6, 2) := by decide +kernel
theorem dX6_starts_118 : decode cX6_starts 118 = .ok (.iload 8, 2) := by decide +kernel
theorem dX6_starts_120 : decode cX6_starts 120 = .ok (.iconst 1, 1) := by decide +kernel
theorem dX6_starts_121 : decode cX6_starts 121 = .ok (.isub, 1) := by decide +kernel
theorem dX6_starts_122 : decode cX6_starts 122 = .ok (.imul, 1) := by decide +kernel
theorem dX6_starts_123 : decode cX6_starts 123 = .ok (.goto 13, 3) := by decide +kernel
theorem dX6_starts_126 : decode cX6_starts 126 = .ok (.iload 9, 2) := by decide +kernel
theorem dX6_starts_128 : decode cX6_starts 128 = .ok (.iload 6, 2) := by decide +kernel
theorem dX6_starts_130 : decode cX6_starts 130 = .ok (.iload 8, 2) := by decide +kernel
theorem dX6_starts_132 : decode cX6_starts 132 = .ok (.imul, 1) := by decide +kernel
theorem dX6_starts_133 : decode cX6_starts 133 = .ok (.invokestatic 170, 3) := by decide +kernel
theorem dX6_starts_136 : decode cX6_starts 136 = .ok (.istore 12, 2) := by decide +kernel
theorem dX6_starts_138 : decode cX6_starts 138 = .ok (.iload 12, 2) := by decide +kernel
theorem dX6_starts_140 : decode cX6_starts 140 = .ok (.iload 6, 2) := by decide +kernel
theorem dX6_starts_142 : decode cX6_starts 142 = .ok (.iadd, 1) := by decide +kernel
theorem dX6_starts_143 : decode cX6_starts 143 = .ok (.iconst 1, 1) := by decide +kernel
theorem dX6_starts_144 : decode cX6_starts 144 = .ok (.isub, 1) := by decide +kernel
theorem dX6_starts_145 : decode cX6_starts 145 = .ok (.iload 6, 2) := by decide +kernel
theorem dX6_starts_147 : decode cX6_starts 147 = .ok (.idiv, 1) := by decide +kernel
theorem dX6_starts_148 : decode cX6_starts 148 = .ok (.istore 13, 2) := by decide +kernel
theorem dX6_starts_150 : decode cX6_starts 150 = .ok (.iload 4, 2) := by decide +kernel
theorem dX6_starts_152 : decode cX6_starts 152 = .ok (.aload_n 0, 1) := by decide +kernel
theorem dX6_starts_153 : decode cX6_starts 153 = .ok (.iload_n 1, 1) := by decide +kernel
theorem dX6_starts_154 : decode cX6_starts 154 = .ok (.iconst 3, 1) := by decide +kernel
theorem dX6_starts_155 : decode cX6_starts 155 = .ok (.invokevirtual 92, 3) := by decide +kernel
theorem dX6_starts_158 : decode cX6_starts 158 = .ok (.iadd, 1) := by decide +kernel
theorem dX6_starts_159 : decode cX6_starts 159 = .ok (.istore 14, 2) := by decide +kernel
theorem dX6_starts_161 : decode cX6_starts 161 = .ok (.aload_n 0, 1) := by decide +kernel
theorem dX6_starts_162 : decode cX6_starts 162 = .ok (.iload_n 2, 1) := by decide +kernel
theorem dX6_starts_163 : decode cX6_starts 163 = .ok (.iload 5, 2) := by decide +kernel
theorem dX6_starts_165 : decode cX6_starts 165 = .ok (.iload 4, 2) := by decide +kernel
theorem dX6_starts_167 : decode cX6_starts 167 = .ok (.iload 6, 2) := by decide +kernel
theorem dX6_starts_169 : decode cX6_starts 169 = .ok (.aload_n 0, 1) := by decide +kernel
theorem dX6_starts_170 : decode cX6_starts 170 = .ok (.iload_n 1, 1) := by decide +kernel
theorem dX6_starts_171 : decode cX6_starts 171 = .ok (.iconst 3, 1) := by decide +kernel
theorem dX6_starts_172 : decode cX6_starts 172 = .ok (.invokevirtual 92, 3) := by decide +kernel
theorem dX6_starts_175 : decode cX6_starts 175 = .ok (.iconst 2, 1) := by decide +kernel
theorem dX6_starts_176 : decode cX6_starts 176 = .ok (.iload_n 1, 1) := by decide +kernel
theorem dX6_starts_177 : decode cX6_starts 177 = .ok (.invokevirtual 160, 3) := by decide +kernel
theorem dX6_starts_180 : decode cX6_starts 180 = .ok (.aload_n 0, 1) := by decide +kernel
theorem dX6_starts_181 : decode cX6_starts 181 = .ok (.iload_n 2, 1) := by decide +kernel
theorem dX6_starts_182 : decode cX6_starts 182 = .ok (.iload 5, 2) := by decide +kernel
theorem dX6_starts_184 : decode cX6_starts 184 = .ok (.iload 14, 2) := by decide +kernel
theorem dX6_starts_186 : decode cX6_starts 186 = .ok (.iload 6, 2) := by decide +kernel
theorem dX6_starts_188 : decode cX6_starts 188 = .ok (.aload_n 0, 1) := by decide +kernel
theorem dX6_starts_189 : decode cX6_starts 189 = .ok (.iload_n 1, 1) := by decide +kernel
theorem dX6_starts_190 : decode cX6_starts 190 = .ok (.bipush 6, 2) := by decide +kernel
theorem dX6_starts_192 : decode cX6_starts 192 = .ok (.invokevirtual 92, 3) := by decide +kernel
theorem dX6_starts_195 : decode cX6_starts 195 = .ok (.iconst 3, 1) := by decide +kernel
theorem dX6_starts_196 : decode cX6_starts 196 = .ok (.iload_n 1, 1) := by decide +kernel
theorem dX6_starts_197 : decode cX6_starts 197 = .ok (.invokevirtual 160, 3) := by decide +kernel
theorem dX6_starts_200 : decode cX6_starts 200 = .ok (.aload_n 0, 1) := by decide +kernel
theorem dX6_starts_201 : decode cX6_starts 201 = .ok (.iload_n 2, 1) := by decide +kernel
theorem dX6_starts_202 : decode cX6_starts 202 = .ok (.iload 5, 2) := by decide +kernel
theorem dX6_starts_204 : decode cX6_starts 204 = .ok (.iload 14, 2) := by decide +kernel
theorem dX6_starts_206 : decode cX6_starts 206 = .ok (.aload_n 0, 1) := by decide +kernel
theorem dX6_starts_207 : decode cX6_starts 207 = .ok (.iload_n 1, 1) := by decide +kernel
theorem dX6_starts_208 : decode cX6_starts 208 = .ok (.bipush 6, 2) := by decide +kernel
theorem dX6_starts_210 : decode cX6_starts 210 = .ok (.invokevirtual 92, 3) := by decide +kernel
theorem dX6_starts_213 : decode cX6_starts 213 = .ok (.iadd, 1) := by decide +kernel
theorem dX6_starts_214 : decode cX6_starts 214 = .ok (.iload 6, 2) := by decide +kernel
theorem dX6_starts_216 : decode cX6_starts 216 = .ok (.aload_n 0, 1) := by decide +kernel
theorem dX6_starts_217 : decode cX6_starts 217 = .ok (.iload_n 1, 1) := by decide +kernel
theorem dX6_starts_218 : decode cX6_starts 218 = .ok (.bipush 7, 2) := by decide +kernel
theorem dX6_starts_220 : decode cX6_starts 220 = .ok (.invokevirtual 92, 3) := by decide +kernel
theorem dX6_starts_223 : decode cX6_starts 223 = .ok (.iconst 4, 1) := by decide +kernel
theorem dX6_starts_224 : decode cX6_starts 224 = .ok (.iload_n 1, 1) := by decide +kernel
theorem dX6_starts_225 : decode cX6_starts 225 = .ok (.invokevirtual 160, 3) := by decide +kernel
theorem dX6_starts_228 : decode cX6_starts 228 = .ok (.aload_n 0, 1) := by decide +kernel
theorem dX6_starts_229 : decode cX6_starts 229 = .ok (.iload_n 1, 1) := by decide +kernel
theorem dX6_starts_230 : decode cX6_starts 230 = .ok (.iload_n 2, 1) := by decide +kernel
theorem dX6_starts_231 : decode cX6_starts 231 = .ok (.iload 5, 2) := by decide +kernel
theorem dX6_starts_233 : decode cX6_starts 233 = .ok (.iload 4, 2) := by decide +kernel
theorem dX6_starts_235 : decode cX6_starts 235 = .ok (.iload 7, 2) := by decide +kernel
theorem dX6_starts_237 : decode cX6_starts 237 = .ok (.iadd, 1) := by decide +kernel
theorem dX6_starts_238 : decode cX6_starts 238 = .ok (.iload 6, 2) := by decide +kernel
theorem dX6_starts_240 : decode cX6_starts 240 = .ok (.iload 13, 2) := by decide +kernel
theorem dX6_starts_242 : decode cX6_starts 242 = .ok (.iload 12, 2) := by decide +kernel
theorem dX6_starts_244 : decode cX6_starts 244 = .ok (.invokevirtual 175, 3) := by decide +kernel
theorem dX6_starts_247 : decode cX6_starts 247 = .ok (.iload 11, 2) := by decide +kernel
theorem dX6_starts_249 : decode cX6_starts 249 = .ok (.ifCond .eq 24, 3) := by decide +kernel
theorem dX6_starts_252 : decode cX6_starts 252 = .ok (.aload_n 0, 1) := by decide +kernel
theorem dX6_starts_253 : decode cX6_starts 253 = .ok (.iload_n 2, 1) := by decide +kernel
theorem dX6_starts_254 : decode cX6_starts 254 = .ok (.iload 5, 2) := by decide +kernel
theorem dX6_starts_256 : decode cX6_starts 256 = .ok (.iload 4, 2) := by decide +kernel
theorem dX6_starts_258 : decode cX6_starts 258 = .ok (.iload 7, 2) := by decide +kernel
theorem dX6_starts_260 : decode cX6_starts 260 = .ok (.iadd, 1) := by decide +kernel
theorem dX6_starts_261 : decode cX6_starts 261 = .ok (.iload 13, 2) := by decide +kernel
theorem dX6_starts_263 : decode cX6_starts 263 = .ok (.iadd, 1) := by decide +kernel
theorem dX6_starts_264 : decode cX6_starts 264 = .ok (.iload 6, 2) := by decide +kernel
theorem dX6_starts_266 : decode cX6_starts 266 = .ok (.iconst 1, 1) := by decide +kernel
theorem dX6_starts_267 : decode cX6_starts 267 = .ok (.bipush 6, 2) := by decide +kernel
theorem dX6_starts_269 : decode cX6_starts 269 = .ok (.iload_n 1, 1) := by decide +kernel
theorem dX6_starts_270 : decode cX6_starts 270 = .ok (.invokevirtual 160, 3) := by decide +kernel
theorem dX6_starts_273 : decode cX6_starts 273 = .ok (.aload_n 0, 1) := by decide +kernel
theorem dX6_starts_274 : decode cX6_starts 274 = .ok (.iload_n 1, 1) := by decide +kernel
theorem dX6_starts_275 : decode cX6_starts 275 = .ok (.iload_n 2, 1) := by decide +kernel
theorem dX6_starts_276 : decode cX6_starts 276 = .ok (.iload 5, 2) := by decide +kernel
theorem dX6_starts_278 : decode cX6_starts 278 = .ok (.iload 4, 2) := by decide +kernel
theorem dX6_starts_280 : decode cX6_starts 280 = .ok (.iload 6, 2) := by decide +kernel
theorem dX6_starts_282 : decode cX6_starts 282 = .ok (.iload 7, 2) := by decide +kernel
theorem dX6_starts_284 : decode cX6_starts 284 = .ok (.iload 13, 2) := by decide +kernel
theorem dX6_starts_286 : decode cX6_starts 286 = .ok (.iadd, 1) := by decide +kernel
theorem dX6_starts_287 : decode cX6_starts 287 = .ok (.iload 11, 2) := by decide +kernel
theorem dX6_starts_289 : decode cX6_starts 289 = .ok (.ifCond .eq 7, 3) := by decide +kernel
theorem dX6_starts_292 : decode cX6_starts 292 = .ok (.iconst 1, 1) := by decide +kernel
theorem dX6_starts_293 : decode cX6_starts 293 = .ok (.goto 4, 3) := by decide +kernel
theorem dX6_starts_296 : decode cX6_starts 296 = .ok (.iconst 0, 1) := by decide +kernel
theorem dX6_starts_297 : decode cX6_starts 297 = .ok (.iadd, 1) := by decide +kernel
theorem dX6_starts_298 : decode cX6_starts 298 = .ok (.iload 12, 2) := by decide +kernel
theorem dX6_starts_300 : decode cX6_starts 300 = .ok (.iconst 0, 1) := by decide +kernel
theorem dX6_starts_301 : decode cX6_starts 301 = .ok (.iload 11, 2) := by decide +kernel
theorem dX6_starts_303 : decode cX6_starts 303 = .ok (.invokevirtual 178, 3) := by decide +kernel
theorem dX6_starts_306 : decode cX6_starts 306 = .ok (.iload 11, 2) := by decide +kernel
theorem dX6_starts_308 : decode cX6_starts 308 = .ok (.ifCond .eq 12, 3) := by decide +kernel
theorem dX6_starts_311 : decode cX6_starts 311 = .ok (.aload_n 0, 1) := by decide +kernel
theorem dX6_starts_312 : decode cX6_starts 312 = .ok (.iload_n 1, 1) := by decide +kernel
theorem dX6_starts_313 : decode cX6_starts 313 = .ok (.iload 10, 2) := by decide +kernel
theorem dX6_starts_315 : decode cX6_starts 315 = .ok (.iload 12, 2) := by decide +kernel
theorem dX6_starts_317 : decode cX6_starts 317 = .ok (.invokevirtual 182, 3) := by decide +kernel
theorem dX6_starts_320 : decode cX6_starts 320 = .ok (.return_, 1) := by decide +kernel
theorem dX6_continues_0 : decode cX6_continues 0 = .ok (.iload_n 2, 1) := by decide +kernel
theorem dX6_continues_1 : decode cX6_continues 1 = .ok (.istore 4, 2) := by decide +kernel
theorem dX6_continues_3 : decode cX6_continues 3 = .ok (.iload_n 3, 1) := by decide +kernel
theorem dX6_continues_4 : decode cX6_continues 4 = .ok (.istore 5, 2) := by decide +kernel
theorem dX6_continues_6 : decode cX6_continues 6 = .ok (.iload 4, 2) := by decide +kernel
theorem dX6_continues_8 : decode cX6_continues 8 = .ok (.ifCond .lt 220, 3) := by decide +kernel
theorem dX6_continues_11 : decode cX6_continues 11 = .ok (.aload_n 0, 1) := by decide +kernel
theorem dX6_continues_12 : decode cX6_continues 12 = .ok (.iload 4, 2) := by decide +kernel
theorem dX6_continues_14 : decode cX6_continues 14 = .ok (.iconst 1, 1) := by decide +kernel
theorem dX6_continues_15 : decode cX6_continues 15 = .ok (.iconst 3, 1) := by decide +kernel
theorem dX6_continues_16 : decode cX6_continues 16 = .ok (.invokevirtual 157, 3) := by decide +kernel
theorem dX6_continues_19 : decode cX6_continues 19 = .ok (.istore 6, 2) := by decide +kernel
theorem dX6_continues_21 : decode cX6_continues 21 = .ok (.iload 6, 2) := by decide +kernel
theorem dX6_continues_23 : decode cX6_continues 23 = .ok (.iconst 5, 1) := by decide +kernel
theorem dX6_continues_24 : decode cX6_continues 24 = .ok (.idiv, 1) := by decide +kernel
theorem dX6_continues_25 : decode cX6_continues 25 = .ok (.istore 7, 2) := by decide +kernel
theorem dX6_continues_27 : decode cX6_continues 27 = .ok (.iload 6, 2) := by decide +kernel
theorem dX6_continues_29 : decode cX6_continues 29 = .ok (.iconst 5, 1) := by decide +kernel
theorem dX6_continues_30 : decode cX6_continues 30 = .ok (.irem, 1) := by decide +kernel
theorem dX6_continues_31 : decode cX6_continues 31 = .ok (.istore 8, 2) := by decide +kernel
theorem dX6_continues_33 : decode cX6_continues 33 = .ok (.iconst 3, 1) := by decide +kernel
theorem dX6_continues_34 : decode cX6_continues 34 = .ok (.istore 9, 2) := by decide +kernel
theorem dX6_continues_36 : decode cX6_continues 36 = .ok (.aload_n 0, 1) := by decide +kernel
theorem dX6_continues_37 : decode cX6_continues 37 = .ok (.iload 4, 2) := by decide +kernel
theorem dX6_continues_39 : decode cX6_continues 39 = .ok (.iload 8, 2) := by decide +kernel
theorem dX6_continues_41 : decode cX6_continues 41 = .ok (.iload 7, 2) := by decide +kernel
theorem dX6_continues_43 : decode cX6_continues 43 = .ok (.iconst 1, 1) := by decide +kernel
theorem dX6_continues_44 : decode cX6_continues 44 = .ok (.iload 9, 2) := by decide +kernel
theorem dX6_continues_46 : decode cX6_continues 46 = .ok (.iconst 1, 1) := by decide +kernel
theorem dX6_continues_47 : decode cX6_continues 47 = .ok (.iadd, 1) := by decide +kernel
theorem dX6_continues_48 : decode cX6_continues 48 = .ok (.invokevirtual 154, 3) := by decide +kernel
theorem dX6_continues_51 : decode cX6_continues 51 = .ok (.ifCond .eq 9, 3) := by decide +kernel
theorem dX6_continues_54 : decode cX6_continues 54 = .ok (.iinc 9 1, 3) := by decide +kernel
theorem dX6_continues_57 : decode cX6_continues 57 = .ok (.goto (-21), 3) := by decide +kernel
theorem dX6_continues_60 : decode cX6_continues 60 = .ok (.aload_n 0, 1) := by decide +kernel
theorem dX6_continues_61 : decode cX6_continues 61 = .ok (.iload_n 1, 1) := by decide +kernel
theorem dX6_continues_62 : decode cX6_continues 62 = .ok (.iconst 4, 1) := by decide +kernel
theorem dX6_continues_63 : decode cX6_continues 63 = .ok (.invokevirtual 92, 3) := by decide +kernel
theorem dX6_continues_66 : decode cX6_continues 66 = .ok (.iload 5, 2) := by decide +kernel
theorem dX6_continues_68 : decode cX6_continues 68 = .ok (.isub, 1) := by decide +kernel
theorem dX6_continues_69 : decode cX6_continues 69 = .ok (.istore 10, 2) := by decide +kernel
theorem dX6_continues_71 : decode cX6_continues 71 = .ok (.iload 10, 2) := by decide +kernel
theorem dX6_continues_73 : decode cX6_continues 73 = .ok (.iload 9, 2) := by decide +kernel
theorem dX6_continues_75 : decode cX6_continues 75 = .ok (.iconst 1, 1) := by decide +kernel
theorem dX6_continues_76 : decode cX6_continues 76 = .ok (.isub, 1) := by decide +kernel
theorem dX6_continues_77 : decode cX6_continues 77 = .ok (.if_icmp .le 12, 3) := by decide +kernel
theorem dX6_continues_80 : decode cX6_continues 80 = .ok (.aload_n 0, 1) := by decide +kernel
theorem dX6_continues_81 : decode cX6_continues 81 = .ok (.iload 4, 2) := by decide +kernel
theorem dX6_continues_83 : decode cX6_continues 83 = .ok (.invokevirtual 167, 3) := by decide +kernel
theorem dX6_continues_86 : decode cX6_continues 86 = .ok (.goto 4, 3) := by decide +kernel
theorem dX6_continues_89 : decode cX6_continues 89 = .ok (.iconst (-1), 1) := by decide +kernel
theorem dX6_continues_90 : decode cX6_continues 90 = .ok (.istore 11, 2) := by decide +kernel
theorem dX6_continues_92 : decode cX6_continues 92 = .ok (.iload 11, 2) := by decide +kernel
theorem dX6_continues_94 : decode cX6_continues 94 = .ok (.ifCond .lt 10, 3) := by decide +kernel
theorem dX6_continues_97 : decode cX6_continues 97 = .ok (.iload 9, 2) := by decide +kernel
theorem dX6_continues_99 : decode cX6_continues 99 = .ok (.iconst 2, 1) := by decide +kernel
theorem dX6_continues_100 : decode cX6_continues 100 = .ok (.isub, 1) := by decide +kernel
theorem dX6_continues_101 : decode cX6_continues 101 = .ok (.goto 12, 3) := by decide +kernel
theorem dX6_continues_104 : decode cX6_continues 104 = .ok (.iload 10, 2) := by decide +kernel
theorem dX6_continues_106 : decode cX6_continues 106 = .ok (.iload 9, 2) := by decide +kernel
theorem dX6_continues_108 : decode cX6_continues 108 = .ok (.iconst 1, 1) := by decide +kernel
theorem dX6_continues_109 : decode cX6_continues 109 = .ok (.isub, 1) := by decide +kernel
theorem dX6_continues_110 : decode cX6_continues 110 = .ok (.invokestatic 170, 3) := by decide +kernel
theorem dX6_continues_113 : decode cX6_continues 113 = .ok (.istore 12, 2) := by decide +kernel
theorem dX6_continues_115 : decode cX6_continues 115 = .ok (.aload_n 0, 1) := by decide +kernel
theorem dX6_continues_116 : decode cX6_continues 116 = .ok (.iload 4, 2) := by decide +kernel
theorem dX6_continues_118 : decode cX6_continues 118 = .ok (.iload 8, 2) := by decide +kernel
theorem dX6_continues_120 : decode cX6_continues 120 = .ok (.iload 7, 2) := by decide +kernel
theorem dX6_continues_122 : decode cX6_continues 122 = .ok (.iconst 1, 1) := by decide +kernel
theorem dX6_continues_123 : decode cX6_continues 123 = .ok (.iconst 1, 1) := by decide +kernel
theorem dX6_continues_124 : decode cX6_continues 124 = .ok (.bipush 7, 2) := by decide +kernel
theorem dX6_continues_126 : decode cX6_continues 126 = .ok (.iload_n 1, 1) := by decide +kernel
theorem dX6_continues_127 : decode cX6_continues 127 = .ok (.invokevirtual 160, 3) := by decide +kernel
theorem dX6_continues_130 : decode cX6_continues 130 = .ok (.aload_n 0, 1) := by decide +kernel
theorem dX6_continues_131 : decode cX6_continues 131 = .ok (.iload_n 1, 1) := by decide +kernel
theorem dX6_continues_132 : decode cX6_continues 132 = .ok (.iload 4, 2) := by decide +kernel
theorem dX6_continues_134 : decode cX6_continues 134 = .ok (.iload 8, 2) := by decide +kernel
theorem dX6_continues_136 : decode cX6_continues 136 = .ok (.iload 7, 2) := by decide +kernel
theorem dX6_continues_138 : decode cX6_continues 138 = .ok (.iconst 1, 1) := by decide +kernel
theorem dX6_continues_139 : decode cX6_continues 139 = .ok (.iadd, 1) := by decide +kernel
theorem dX6_continues_140 : decode cX6_continues 140 = .ok (.iconst 1, 1) := by decide +kernel
theorem dX6_continues_141 : decode cX6_continues 141 = .ok (.iload 12, 2) := by decide +kernel
theorem dX6_continues_143 : decode cX6_continues 143 = .ok (.iload 12, 2) := by decide +kernel
theorem dX6_continues_145 : decode cX6_continues 145 = .ok (.invokevirtual 175, 3) := by decide +kernel
theorem dX6_continues_148 : decode cX6_continues 148 = .ok (.iload 11, 2) := by decide +kernel
theorem dX6_continues_150 : decode cX6_continues 150 = .ok (.ifCond .lt 23, 3) := by decide +kernel
theorem dX6_continues_153 : decode cX6_continues 153 = .ok (.aload_n 0, 1) := by decide +kernel
theorem dX6_continues_154 : decode cX6_continues 154 = .ok (.iload 4, 2) := by decide +kernel
theorem dX6_continues_156 : decode cX6_continues 156 = .ok (.iload 8, 2) := by decide +kernel
theorem dX6_continues_158 : decode cX6_continues 158 = .ok (.iload 7, 2) := by decide +kernel
theorem dX6_continues_160 : decode cX6_continues 160 = .ok (.iconst 1, 1) := by decide +kernel
theorem dX6_continues_161 : decode cX6_continues 161 = .ok (.iadd, 1) := by decide +kernel
theorem dX6_continues_162 : decode cX6_continues 162 = .ok (.iload 12, 2) := by decide +kernel
theorem dX6_continues_164 : decode cX6_continues 164 = .ok (.iadd, 1) := by decide +kernel
theorem dX6_continues_165 : decode cX6_continues 165 = .ok (.iconst 1, 1) := by decide +kernel
theorem dX6_continues_166 : decode cX6_continues 166 = .ok (.iconst 1, 1) := by decide +kernel
theorem dX6_continues_167 : decode cX6_continues 167 = .ok (.bipush 6, 2) := by decide +kernel
theorem dX6_continues_169 : decode cX6_continues 169 = .ok (.iload_n 1, 1) := by decide +kernel
theorem dX6_continues_170 : decode cX6_continues 170 = .ok (.invokevirtual 160, 3) := by decide +kernel
theorem dX6_continues_173 : decode cX6_continues 173 = .ok (.aload_n 0, 1) := by decide +kernel
theorem dX6_continues_174 : decode cX6_continues 174 = .ok (.iload_n 1, 1) := by decide +kernel
theorem dX6_continues_175 : decode cX6_continues 175 = .ok (.iload 4, 2) := by decide +kernel
theorem dX6_continues_177 : decode cX6_continues 177 = .ok (.iload 8, 2) := by decide +kernel
theorem dX6_continues_179 : decode cX6_continues 179 = .ok (.iload 7, 2) := by decide +kernel
theorem dX6_continues_181 : decode cX6_continues 181 = .ok (.iconst 1, 1) := by decide +kernel
theorem dX6_continues_182 : decode cX6_continues 182 = .ok (.iconst 1, 1) := by decide +kernel
theorem dX6_continues_183 : decode cX6_continues 183 = .ok (.iload 12, 2) := by decide +kernel
theorem dX6_continues_185 : decode cX6_continues 185 = .ok (.iadd, 1) := by decide +kernel
theorem dX6_continues_186 : decode cX6_continues 186 = .ok (.iload 11, 2) := by decide +kernel
theorem dX6_continues_188 : decode cX6_continues 188 = .ok (.ifCond .lt 7, 3) := by decide +kernel
theorem dX6_continues_191 : decode cX6_continues 191 = .ok (.iconst 1, 1) := by decide +kernel
theorem dX6_continues_192 : decode cX6_continues 192 = .ok (.goto 4, 3) := by decide +kernel
theorem dX6_continues_195 : decode cX6_continues 195 = .ok (.iconst 0, 1) := by decide +kernel
theorem dX6_continues_196 : decode cX6_continues 196 = .ok (.iadd, 1) := by decide +kernel
theorem dX6_continues_197 : decode cX6_continues 197 = .ok (.iload 12, 2) := by decide +kernel
theorem dX6_continues_199 : decode cX6_continues 199 = .ok (.iload 5, 2) := by decide +kernel
theorem dX6_continues_201 : decode cX6_continues 201 = .ok (.iload 11, 2) := by decide +kernel
theorem dX6_continues_203 : decode cX6_continues 203 = .ok (.ifCond .lt 7, 3) := by decide +kernel
theorem dX6_continues_206 : decode cX6_continues 206 = .ok (.iconst 1, 1) := by decide +kernel
theorem dX6_continues_207 : decode cX6_continues 207 = .ok (.goto 4, 3) := by decide +kernel
theorem dX6_continues_210 : decode cX6_continues 210 = .ok (.iconst 0, 1) := by decide +kernel
theorem dX6_continues_211 : decode cX6_continues 211 = .ok (.invokevirtual 178, 3) := by decide +kernel
theorem dX6_continues_214 : decode cX6_continues 214 = .ok (.iload 5, 2) := by decide +kernel
theorem dX6_continues_216 : decode cX6_continues 216 = .ok (.iload 12, 2) := by decide +kernel
theorem dX6_continues_218 : decode cX6_continues 218 = .ok (.iadd, 1) := by decide +kernel
theorem dX6_continues_219 : decode cX6_continues 219 = .ok (.istore 5, 2) := by decide +kernel
theorem dX6_continues_221 : decode cX6_continues 221 = .ok (.iload 11, 2) := by decide +kernel
theorem dX6_continues_223 : decode cX6_continues 223 = .ok (.istore 4, 2) := by decide +kernel
theorem dX6_continues_225 : decode cX6_continues 225 = .ok (.goto (-219), 3) := by decide +kernel
theorem dX6_continues_228 : decode cX6_continues 228 = .ok (.return_, 1) := by decide +kernel
theorem dX6_places_0 : decode cX6_places 0 = .ok (.aload_n 0, 1) := by decide +kernel
theorem dX6_places_1 : decode cX6_places 1 = .ok (.getfield 42, 3) := by decide +kernel
theorem dX6_places_4 : decode cX6_places 4 = .ok (.iload_n 1, 1) := by decide +kernel
theorem dX6_places_5 : decode cX6_places 5 = .ok (.iconst (-1), 1) := by decide +kernel
theorem dX6_places_6 : decode cX6_places 6 = .ok (.iastore, 1) := by decide +kernel
theorem dX6_places_7 : decode cX6_places 7 = .ok (.aload_n 0, 1) := by decide +kernel
theorem dX6_places_8 : decode cX6_places 8 = .ok (.getfield 45, 3) := by decide +kernel
theorem dX6_places_11 : decode cX6_places 11 = .ok (.iload_n 1, 1) := by decide +kernel
theorem dX6_places_12 : decode cX6_places 12 = .ok (.iconst 0, 1) := by decide +kernel
theorem dX6_places_13 : decode cX6_places 13 = .ok (.iastore, 1) := by decide +kernel
theorem dX6_places_14 : decode cX6_places 14 = .ok (.aload_n 0, 1) := by decide +kernel
theorem dX6_places_15 : decode cX6_places 15 = .ok (.iload_n 1, 1) := by decide +kernel
theorem dX6_places_16 : decode cX6_places 16 = .ok (.bipush 8, 2) := by decide +kernel
theorem dX6_places_18 : decode cX6_places 18 = .ok (.invokevirtual 92, 3) := by decide +kernel
theorem dX6_places_21 : decode cX6_places 21 = .ok (.iconst 1, 1) := by decide +kernel
theorem dX6_places_22 : decode cX6_places 22 = .ok (.if_icmp .ne 12, 3) := by decide +kernel
theorem dX6_places_25 : decode cX6_places 25 = .ok (.aload_n 0, 1) := by decide +kernel
theorem dX6_places_26 : decode cX6_places 26 = .ok (.iload_n 1, 1) := by decide +kernel
theorem dX6_places_27 : decode cX6_places 27 = .ok (.iconst 1, 1) := by decide +kernel
theorem dX6_places_28 : decode cX6_places 28 = .ok (.invokevirtual 92, 3) := by decide +kernel
theorem dX6_places_31 : decode cX6_places 31 = .ok (.goto 4, 3) := by decide +kernel
theorem dX6_places_34 : decode cX6_places 34 = .ok (.iconst 3, 1) := by decide +kernel
theorem dX6_places_35 : decode cX6_places 35 = .ok (.istore_n 2, 1) := by decide +kernel
theorem dX6_places_36 : decode cX6_places 36 = .ok (.aload_n 0, 1) := by decide +kernel
theorem dX6_places_37 : decode cX6_places 37 = .ok (.iload_n 1, 1) := by decide +kernel
theorem dX6_places_38 : decode cX6_places 38 = .ok (.iconst 1, 1) := by decide +kernel
theorem dX6_places_39 : decode cX6_places 39 = .ok (.invokevirtual 92, 3) := by decide +kernel
theorem dX6_places_42 : decode cX6_places 42 = .ok (.istore_n 3, 1) := by decide +kernel
theorem dX6_places_43 : decode cX6_places 43 = .ok (.iload_n 3, 1) := by decide +kernel
theorem dX6_places_44 : decode cX6_places 44 = .ok (.iload_n 2, 1) := by decide +kernel
theorem dX6_places_45 : decode cX6_places 45 = .ok (.if_icmp .gt 46, 3) := by decide +kernel
theorem dX6_places_48 : decode cX6_places 48 = .ok (.aload_n 0, 1) := by decide +kernel
theorem dX6_places_49 : decode cX6_places 49 = .ok (.iload_n 3, 1) := by decide +kernel
theorem dX6_places_50 : decode cX6_places 50 = .ok (.aload_n 0, 1) := by decide +kernel
theorem dX6_places_51 : decode cX6_places 51 = .ok (.iload_n 1, 1) := by decide +kernel
theorem dX6_places_52 : decode cX6_places 52 = .ok (.iconst 2, 1) := by decide +kernel
theorem dX6_places_53 : decode cX6_places 53 = .ok (.invokevirtual 92, 3) := by decide +kernel
theorem dX6_places_56 : decode cX6_places 56 = .ok (.aload_n 0, 1) := by decide +kernel
theorem dX6_places_57 : decode cX6_places 57 = .ok (.iload_n 1, 1) := by decide +kernel
theorem dX6_places_58 : decode cX6_places 58 = .ok (.invokevirtual 164, 3) := by decide +kernel
theorem dX6_places_61 : decode cX6_places 61 = .ok (.iconst 2, 1) := by decide +kernel
theorem dX6_places_62 : decode cX6_places 62 = .ok (.iadd, 1) := by decide +kernel
theorem dX6_places_63 : decode cX6_places 63 = .ok (.invokevirtual 157, 3) := by decide +kernel
theorem dX6_places_66 : decode cX6_places 66 = .ok (.istore 4, 2) := by decide +kernel
theorem dX6_places_68 : decode cX6_places 68 = .ok (.iload 4, 2) := by decide +kernel
theorem dX6_places_70 : decode cX6_places 70 = .ok (.ifCond .ge 6, 3) := by decide +kernel
theorem dX6_places_73 : decode cX6_places 73 = .ok (.goto 12, 3) := by decide +kernel
theorem dX6_places_76 : decode cX6_places 76 = .ok (.aload_n 0, 1) := by decide +kernel
theorem dX6_places_77 : decode cX6_places 77 = .ok (.iload_n 1, 1) := by decide +kernel
theorem dX6_places_78 : decode cX6_places 78 = .ok (.iload_n 3, 1) := by decide +kernel
theorem dX6_places_79 : decode cX6_places 79 = .ok (.iload 4, 2) := by decide +kernel
theorem dX6_places_81 : decode cX6_places 81 = .ok (.invokevirtual 186, 3) := by decide +kernel
theorem dX6_places_84 : decode cX6_places 84 = .ok (.return_, 1) := by decide +kernel
theorem dX6_places_85 : decode cX6_places 85 = .ok (.iinc 3 1, 3) := by decide +kernel
theorem dX6_places_88 : decode cX6_places 88 = .ok (.goto (-45), 3) := by decide +kernel
theorem dX6_places_91 : decode cX6_places 91 = .ok (.return_, 1) := by decide +kernel
theorem dX6_lays_0 : decode cX6_lays 0 = .ok (.iconst 0, 1) := by decide +kernel
theorem dX6_lays_1 : decode cX6_lays 1 = .ok (.istore_n 2, 1) := by decide +kernel
theorem dX6_lays_2 : decode cX6_lays 2 = .ok (.iload_n 2, 1) := by decide +kernel
theorem dX6_lays_3 : decode cX6_lays 3 = .ok (.sipush 480, 3) := by decide +kernel
theorem dX6_lays_6 : decode cX6_lays 6 = .ok (.if_icmp .ge 23, 3) := by decide +kernel
theorem dX6_lays_9 : decode cX6_lays 9 = .ok (.aload_n 0, 1) := by decide +kernel
theorem dX6_lays_10 : decode cX6_lays 10 = .ok (.getfield 33, 3) := by decide +kernel
theorem dX6_lays_13 : decode cX6_lays 13 = .ok (.iload_n 2, 1) := by decide +kernel
theorem dX6_lays_14 : decode cX6_lays 14 = .ok (.iconst 0, 1) := by decide +kernel
theorem dX6_lays_15 : decode cX6_lays 15 = .ok (.iastore, 1) := by decide +kernel
theorem dX6_lays_16 : decode cX6_lays 16 = .ok (.aload_n 0, 1) := by decide +kernel
theorem dX6_lays_17 : decode cX6_lays 17 = .ok (.getfield 36, 3) := by decide +kernel
theorem dX6_lays_20 : decode cX6_lays 20 = .ok (.iload_n 2, 1) := by decide +kernel
theorem dX6_lays_21 : decode cX6_lays 21 = .ok (.iconst (-1), 1) := by decide +kernel
theorem dX6_lays_22 : decode cX6_lays 22 = .ok (.iastore, 1) := by decide +kernel
theorem dX6_lays_23 : decode cX6_lays 23 = .ok (.iinc 2 1, 3) := by decide +kernel
theorem dX6_lays_26 : decode cX6_lays 26 = .ok (.goto (-24), 3) := by decide +kernel
theorem dX6_lays_29 : decode cX6_lays 29 = .ok (.iconst 0, 1) := by decide +kernel
theorem dX6_lays_30 : decode cX6_lays 30 = .ok (.istore_n 2, 1) := by decide +kernel
theorem dX6_lays_31 : decode cX6_lays 31 = .ok (.iload_n 2, 1) := by decide +kernel
theorem dX6_lays_32 : decode cX6_lays 32 = .ok (.bipush 8, 2) := by decide +kernel
theorem dX6_lays_34 : decode cX6_lays 34 = .ok (.if_icmp .ge 58, 3) := by decide +kernel
theorem dX6_lays_37 : decode cX6_lays 37 = .ok (.aload_n 0, 1) := by decide +kernel
theorem dX6_lays_38 : decode cX6_lays 38 = .ok (.iload_n 2, 1) := by decide +kernel
theorem dX6_lays_39 : decode cX6_lays 39 = .ok (.iconst 0, 1) := by decide +kernel
theorem dX6_lays_40 : decode cX6_lays 40 = .ok (.invokevirtual 96, 3) := by decide +kernel
theorem dX6_lays_43 : decode cX6_lays 43 = .ok (.iconst 1, 1) := by decide +kernel
theorem dX6_lays_44 : decode cX6_lays 44 = .ok (.if_icmp .ne 42, 3) := by decide +kernel
theorem dX6_lays_47 : decode cX6_lays 47 = .ok (.aload_n 0, 1) := by decide +kernel
theorem dX6_lays_48 : decode cX6_lays 48 = .ok (.aload_n 0, 1) := by decide +kernel
theorem dX6_lays_49 : decode cX6_lays 49 = .ok (.iload_n 2, 1) := by decide +kernel
theorem dX6_lays_50 : decode cX6_lays 50 = .ok (.iconst 1, 1) := by decide +kernel
theorem dX6_lays_51 : decode cX6_lays 51 = .ok (.invokevirtual 96, 3) := by decide +kernel
theorem dX6_lays_54 : decode cX6_lays 54 = .ok (.aload_n 0, 1) := by decide +kernel
theorem dX6_lays_55 : decode cX6_lays 55 = .ok (.iload_n 2, 1) := by decide +kernel
theorem dX6_lays_56 : decode cX6_lays 56 = .ok (.iconst 2, 1) := by decide +kernel
theorem dX6_lays_57 : decode cX6_lays 57 = .ok (.invokevirtual 96, 3) := by decide +kernel
theorem dX6_lays_60 : decode cX6_lays 60 = .ok (.aload_n 0, 1) := by decide +kernel
theorem dX6_lays_61 : decode cX6_lays 61 = .ok (.iload_n 2, 1) := by decide +kernel
theorem dX6_lays_62 : decode cX6_lays 62 = .ok (.iconst 3, 1) := by decide +kernel
theorem dX6_lays_63 : decode cX6_lays 63 = .ok (.invokevirtual 96, 3) := by decide +kernel
theorem dX6_lays_66 : decode cX6_lays 66 = .ok (.aload_n 0, 1) := by decide +kernel
theorem dX6_lays_67 : decode cX6_lays 67 = .ok (.iload_n 2, 1) := by decide +kernel
theorem dX6_lays_68 : decode cX6_lays 68 = .ok (.iconst 4, 1) := by decide +kernel
theorem dX6_lays_69 : decode cX6_lays 69 = .ok (.invokevirtual 96, 3) := by decide +kernel
theorem dX6_lays_72 : decode cX6_lays 72 = .ok (.aload_n 0, 1) := by decide +kernel
theorem dX6_lays_73 : decode cX6_lays 73 = .ok (.iload_n 2, 1) := by decide +kernel
theorem dX6_lays_74 : decode cX6_lays 74 = .ok (.iconst 5, 1) := by decide +kernel
theorem dX6_lays_75 : decode cX6_lays 75 = .ok (.invokevirtual 96, 3) := by decide +kernel
theorem dX6_lays_78 : decode cX6_lays 78 = .ok (.iconst 1, 1) := by decide +kernel
theorem dX6_lays_79 : decode cX6_lays 79 = .ok (.bipush 100, 2) := by decide +kernel
theorem dX6_lays_81 : decode cX6_lays 81 = .ok (.iload_n 2, 1) := by decide +kernel
theorem dX6_lays_82 : decode cX6_lays 82 = .ok (.iadd, 1) := by decide +kernel
theorem dX6_lays_83 : decode cX6_lays 83 = .ok (.invokevirtual 160, 3) := by decide +kernel
theorem dX6_lays_86 : decode cX6_lays 86 = .ok (.iinc 2 1, 3) := by decide +kernel
theorem dX6_lays_89 : decode cX6_lays 89 = .ok (.goto (-58), 3) := by decide +kernel
theorem dX6_lays_92 : decode cX6_lays 92 = .ok (.aload_n 0, 1) := by decide +kernel
theorem dX6_lays_93 : decode cX6_lays 93 = .ok (.invokevirtual 188, 3) := by decide +kernel
theorem dX6_lays_96 : decode cX6_lays 96 = .ok (.iconst 0, 1) := by decide +kernel
theorem dX6_lays_97 : decode cX6_lays 97 = .ok (.istore_n 2, 1) := by decide +kernel
theorem dX6_lays_98 : decode cX6_lays 98 = .ok (.iload_n 2, 1) := by decide +kernel
theorem dX6_lays_99 : decode cX6_lays 99 = .ok (.aload_n 0, 1) := by decide +kernel
theorem dX6_lays_100 : decode cX6_lays 100 = .ok (.getfield 54, 3) := by decide +kernel
theorem dX6_lays_103 : decode cX6_lays 103 = .ok (.if_icmp .ge 29, 3) := by decide +kernel
theorem dX6_lays_106 : decode cX6_lays 106 = .ok (.aload_n 0, 1) := by decide +kernel
theorem dX6_lays_107 : decode cX6_lays 107 = .ok (.getfield 39, 3) := by decide +kernel
theorem dX6_lays_110 : decode cX6_lays 110 = .ok (.iload_n 2, 1) := by decide +kernel
theorem dX6_lays_111 : decode cX6_lays 111 = .ok (.iaload, 1) := by decide +kernel
theorem dX6_lays_112 : decode cX6_lays 112 = .ok (.iload_n 1, 1) := by decide +kernel
theorem dX6_lays_113 : decode cX6_lays 113 = .ok (.if_icmp .eq 13, 3) := by decide +kernel
theorem dX6_lays_116 : decode cX6_lays 116 = .ok (.aload_n 0, 1) := by decide +kernel
theorem dX6_lays_117 : decode cX6_lays 117 = .ok (.aload_n 0, 1) := by decide +kernel
theorem dX6_lays_118 : decode cX6_lays 118 = .ok (.getfield 39, 3) := by decide +kernel
theorem dX6_lays_121 : decode cX6_lays 121 = .ok (.iload_n 2, 1) := by decide +kernel
theorem dX6_lays_122 : decode cX6_lays 122 = .ok (.iaload, 1) := by decide +kernel
theorem dX6_lays_123 : decode cX6_lays 123 = .ok (.invokevirtual 191, 3) := by decide +kernel
theorem dX6_lays_126 : decode cX6_lays 126 = .ok (.iinc 2 1, 3) := by decide +kernel
theorem dX6_lays_129 : decode cX6_lays 129 = .ok (.goto (-31), 3) := by decide +kernel
theorem dX6_lays_132 : decode cX6_lays 132 = .ok (.return_, 1) := by decide +kernel
theorem dX6_asks_0 : decode cX6_asks 0 = .ok (.aload_n 0, 1) := by decide +kernel
theorem dX6_asks_1 : decode cX6_asks 1 = .ok (.iconst 0, 1) := by decide +kernel
theorem dX6_asks_2 : decode cX6_asks 2 = .ok (.putfield 3, 3) := by decide +kernel
theorem dX6_asks_5 : decode cX6_asks 5 = .ok (.aload_n 0, 1) := by decide +kernel
theorem dX6_asks_6 : decode cX6_asks 6 = .ok (.iconst (-1), 1) := by decide +kernel
theorem dX6_asks_7 : decode cX6_asks 7 = .ok (.invokevirtual 195, 3) := by decide +kernel
theorem dX6_asks_10 : decode cX6_asks 10 = .ok (.return_, 1) := by decide +kernel
theorem dX6_linesOn_0 : decode cX6_linesOn 0 = .ok (.iconst 0, 1) := by decide +kernel
theorem dX6_linesOn_1 : decode cX6_linesOn 1 = .ok (.istore_n 2, 1) := by decide +kernel
theorem dX6_linesOn_2 : decode cX6_linesOn 2 = .ok (.iconst 0, 1) := by decide +kernel
theorem dX6_linesOn_3 : decode cX6_linesOn 3 = .ok (.istore_n 3, 1) := by decide +kernel
theorem dX6_linesOn_4 : decode cX6_linesOn 4 = .ok (.iload_n 3, 1) := by decide +kernel
theorem dX6_linesOn_5 : decode cX6_linesOn 5 = .ok (.aload_n 0, 1) := by decide +kernel
theorem dX6_linesOn_6 : decode cX6_linesOn 6 = .ok (.getfield 45, 3) := by decide +kernel
theorem dX6_linesOn_9 : decode cX6_linesOn 9 = .ok (.iload_n 1, 1) := by decide +kernel
theorem dX6_linesOn_10 : decode cX6_linesOn 10 = .ok (.iaload, 1) := by decide +kernel
theorem dX6_linesOn_11 : decode cX6_linesOn 11 = .ok (.if_icmp .ge 27, 3) := by decide +kernel
theorem dX6_linesOn_14 : decode cX6_linesOn 14 = .ok (.iload_n 2, 1) := by decide +kernel
theorem dX6_linesOn_15 : decode cX6_linesOn 15 = .ok (.aload_n 0, 1) := by decide +kernel
theorem dX6_linesOn_16 : decode cX6_linesOn 16 = .ok (.getfield 48, 3) := by decide +kernel
theorem dX6_linesOn_19 : decode cX6_linesOn 19 = .ok (.bipush 8, 2) := by decide +kernel
theorem dX6_linesOn_21 : decode cX6_linesOn 21 = .ok (.iconst 4, 1) := by decide +kernel
theorem dX6_linesOn_22 : decode cX6_linesOn 22 = .ok (.iload_n 1, 1) := by decide +kernel
theorem dX6_linesOn_23 : decode cX6_linesOn 23 = .ok (.imul, 1) := by decide +kernel
theorem dX6_linesOn_24 : decode cX6_linesOn 24 = .ok (.iload_n 3, 1) := by decide +kernel
theorem dX6_linesOn_25 : decode cX6_linesOn 25 = .ok (.iadd, 1) := by decide +kernel
theorem dX6_linesOn_26 : decode cX6_linesOn 26 = .ok (.imul, 1) := by decide +kernel
theorem dX6_linesOn_27 : decode cX6_linesOn 27 = .ok (.iconst 5, 1) := by decide +kernel
theorem dX6_linesOn_28 : decode cX6_linesOn 28 = .ok (.iadd, 1) := by decide +kernel
theorem dX6_linesOn_29 : decode cX6_linesOn 29 = .ok (.iaload, 1) := by decide +kernel
theorem dX6_linesOn_30 : decode cX6_linesOn 30 = .ok (.iadd, 1) := by decide +kernel
theorem dX6_linesOn_31 : decode cX6_linesOn 31 = .ok (.istore_n 2, 1) := by decide +kernel
theorem dX6_linesOn_32 : decode cX6_linesOn 32 = .ok (.iinc 3 1, 3) := by decide +kernel
theorem dX6_linesOn_35 : decode cX6_linesOn 35 = .ok (.goto (-31), 3) := by decide +kernel
theorem dX6_linesOn_38 : decode cX6_linesOn 38 = .ok (.iload_n 2, 1) := by decide +kernel
theorem dX6_linesOn_39 : decode cX6_linesOn 39 = .ok (.ireturn, 1) := by decide +kernel
theorem dX6_rankOf_0 : decode cX6_rankOf 0 = .ok (.iconst 0, 1) := by decide +kernel
theorem dX6_rankOf_1 : decode cX6_rankOf 1 = .ok (.istore_n 2, 1) := by decide +kernel
theorem dX6_rankOf_2 : decode cX6_rankOf 2 = .ok (.iload_n 2, 1) := by decide +kernel
theorem dX6_rankOf_3 : decode cX6_rankOf 3 = .ok (.aload_n 0, 1) := by decide +kernel
theorem dX6_rankOf_4 : decode cX6_rankOf 4 = .ok (.getfield 54, 3) := by decide +kernel
theorem dX6_rankOf_7 : decode cX6_rankOf 7 = .ok (.if_icmp .ge 21, 3) := by decide +kernel
theorem dX6_rankOf_10 : decode cX6_rankOf 10 = .ok (.aload_n 0, 1) := by decide +kernel
theorem dX6_rankOf_11 : decode cX6_rankOf 11 = .ok (.getfield 39, 3) := by decide +kernel
theorem dX6_rankOf_14 : decode cX6_rankOf 14 = .ok (.iload_n 2, 1) := by decide +kernel
theorem dX6_rankOf_15 : decode cX6_rankOf 15 = .ok (.iaload, 1) := by decide +kernel
theorem dX6_rankOf_16 : decode cX6_rankOf 16 = .ok (.iload_n 1, 1) := by decide +kernel
theorem dX6_rankOf_17 : decode cX6_rankOf 17 = .ok (.if_icmp .ne 5, 3) := by decide +kernel
theorem dX6_rankOf_20 : decode cX6_rankOf 20 = .ok (.iload_n 2, 1) := by decide +kernel
theorem dX6_rankOf_21 : decode cX6_rankOf 21 = .ok (.ireturn, 1) := by decide +kernel
theorem dX6_rankOf_22 : decode cX6_rankOf 22 = .ok (.iinc 2 1, 3) := by decide +kernel
theorem dX6_rankOf_25 : decode cX6_rankOf 25 = .ok (.goto (-23), 3) := by decide +kernel
theorem dX6_rankOf_28 : decode cX6_rankOf 28 = .ok (.iconst (-1), 1) := by decide +kernel
theorem dX6_rankOf_29 : decode cX6_rankOf 29 = .ok (.ireturn, 1) := by decide +kernel
theorem dX6_story_0 : decode cX6_story 0 = .ok (.aload_n 0, 1) := by decide +kernel
theorem dX6_story_1 : decode cX6_story 1 = .ok (.invokevirtual 198, 3) := by decide +kernel
theorem dX6_story_4 : decode cX6_story 4 = .ok (.aload_n 0, 1) := by decide +kernel
theorem dX6_story_5 : decode cX6_story 5 = .ok (.iload_n 1, 1) := by decide +kernel
theorem dX6_story_6 : decode cX6_story 6 = .ok (.invokevirtual 111, 3) := by decide +kernel
theorem dX6_story_9 : decode cX6_story 9 = .ok (.ifCond .ne 9, 3) := by decide +kernel
theorem dX6_story_12 : decode cX6_story 12 = .ok (.aload_n 0, 1) := by decide +kernel
theorem dX6_story_13 : decode cX6_story 13 = .ok (.iconst 1, 1) := by decide +kernel
theorem dX6_story_14 : decode cX6_story 14 = .ok (.invokevirtual 99, 3) := by decide +kernel
theorem dX6_story_17 : decode cX6_story 17 = .ok (.ireturn, 1) := by decide +kernel
theorem dX6_story_18 : decode cX6_story 18 = .ok (.iload_n 2, 1) := by decide +kernel
theorem dX6_story_19 : decode cX6_story 19 = .ok (.iconst 0, 1) := by decide +kernel
theorem dX6_story_20 : decode cX6_story 20 = .ok (.bipush 12, 2) := by decide +kernel
theorem dX6_story_22 : decode cX6_story 22 = .ok (.invokestatic 88, 3) := by decide +kernel
theorem dX6_story_25 : decode cX6_story 25 = .ok (.ifCond .ne 9, 3) := by decide +kernel
theorem dX6_story_28 : decode cX6_story 28 = .ok (.aload_n 0, 1) := by decide +kernel
theorem dX6_story_29 : decode cX6_story 29 = .ok (.iconst 2, 1) := by decide +kernel
theorem dX6_story_30 : decode cX6_story 30 = .ok (.invokevirtual 99, 3) := by decide +kernel
theorem dX6_story_33 : decode cX6_story 33 = .ok (.ireturn, 1) := by decide +kernel
theorem dX6_story_34 : decode cX6_story 34 = .ok (.iload_n 2, 1) := by decide +kernel
theorem dX6_story_35 : decode cX6_story 35 = .ok (.bipush 8, 2) := by decide +kernel
theorem dX6_story_37 : decode cX6_story 37 = .ok (.if_icmp .ge 12, 3) := by decide +kernel
theorem dX6_story_40 : decode cX6_story 40 = .ok (.aload_n 0, 1) := by decide +kernel
theorem dX6_story_41 : decode cX6_story 41 = .ok (.iload_n 1, 1) := by decide +kernel
theorem dX6_story_42 : decode cX6_story 42 = .ok (.iconst 1, 1) := by decide +kernel
theorem dX6_story_43 : decode cX6_story 43 = .ok (.iload_n 2, 1) := by decide +kernel
theorem dX6_story_44 : decode cX6_story 44 = .ok (.iadd, 1) := by decide +kernel
theorem dX6_story_45 : decode cX6_story 45 = .ok (.invokevirtual 92, 3) := by decide +kernel
theorem dX6_story_48 : decode cX6_story 48 = .ok (.ireturn, 1) := by decide +kernel
theorem dX6_story_49 : decode cX6_story 49 = .ok (.iload_n 2, 1) := by decide +kernel
theorem dX6_story_50 : decode cX6_story 50 = .ok (.tableswitch 56 8 11 #[30, 36, 43, 50], 30) := by decide +kernel
theorem dX6_story_80 : decode cX6_story 80 = .ok (.aload_n 0, 1) := by decide +kernel
theorem dX6_story_81 : decode cX6_story 81 = .ok (.iload_n 1, 1) := by decide +kernel
theorem dX6_story_82 : decode cX6_story 82 = .ok (.invokevirtual 201, 3) := by decide +kernel
theorem dX6_story_85 : decode cX6_story 85 = .ok (.ireturn, 1) := by decide +kernel
theorem dX6_story_86 : decode cX6_story 86 = .ok (.aload_n 0, 1) := by decide +kernel
theorem dX6_story_87 : decode cX6_story 87 = .ok (.getfield 42, 3) := by decide +kernel
theorem dX6_story_90 : decode cX6_story 90 = .ok (.iload_n 1, 1) := by decide +kernel
theorem dX6_story_91 : decode cX6_story 91 = .ok (.iaload, 1) := by decide +kernel
theorem dX6_story_92 : decode cX6_story 92 = .ok (.ireturn, 1) := by decide +kernel
theorem dX6_story_93 : decode cX6_story 93 = .ok (.aload_n 0, 1) := by decide +kernel
theorem dX6_story_94 : decode cX6_story 94 = .ok (.getfield 45, 3) := by decide +kernel
theorem dX6_story_97 : decode cX6_story 97 = .ok (.iload_n 1, 1) := by decide +kernel
theorem dX6_story_98 : decode cX6_story 98 = .ok (.iaload, 1) := by decide +kernel
theorem dX6_story_99 : decode cX6_story 99 = .ok (.ireturn, 1) := by decide +kernel
theorem dX6_story_100 : decode cX6_story 100 = .ok (.aload_n 0, 1) := by decide +kernel
theorem dX6_story_101 : decode cX6_story 101 = .ok (.iload_n 1, 1) := by decide +kernel
theorem dX6_story_102 : decode cX6_story 102 = .ok (.invokevirtual 204, 3) := by decide +kernel
theorem dX6_story_105 : decode cX6_story 105 = .ok (.ireturn, 1) := by decide +kernel
theorem dX6_story_106 : decode cX6_story 106 = .ok (.aload_n 0, 1) := by decide +kernel
theorem dX6_story_107 : decode cX6_story 107 = .ok (.iload_n 1, 1) := by decide +kernel
theorem dX6_story_108 : decode cX6_story 108 = .ok (.iconst 4, 1) := by decide +kernel
theorem dX6_story_109 : decode cX6_story 109 = .ok (.invokevirtual 92, 3) := by decide +kernel
theorem dX6_story_112 : decode cX6_story 112 = .ok (.aload_n 0, 1) := by decide +kernel
theorem dX6_story_113 : decode cX6_story 113 = .ok (.iload_n 1, 1) := by decide +kernel
theorem dX6_story_114 : decode cX6_story 114 = .ok (.invokevirtual 204, 3) := by decide +kernel
theorem dX6_story_117 : decode cX6_story 117 = .ok (.isub, 1) := by decide +kernel
theorem dX6_story_118 : decode cX6_story 118 = .ok (.ireturn, 1) := by decide +kernel
theorem dX6_advertisement_0 : decode cX6_advertisement 0 = .ok (.aload_n 0, 1) := by decide +kernel
theorem dX6_advertisement_1 : decode cX6_advertisement 1 = .ok (.iconst 0, 1) := by decide +kernel
theorem dX6_advertisement_2 : decode cX6_advertisement 2 = .ok (.putfield 3, 3) := by decide +kernel
theorem dX6_advertisement_5 : decode cX6_advertisement 5 = .ok (.aload_n 0, 1) := by decide +kernel
theorem dX6_advertisement_6 : decode cX6_advertisement 6 = .ok (.iload_n 1, 1) := by decide +kernel
theorem dX6_advertisement_7 : decode cX6_advertisement 7 = .ok (.invokevirtual 141, 3) := by decide +kernel
theorem dX6_advertisement_10 : decode cX6_advertisement 10 = .ok (.ifCond .ne 9, 3) := by decide +kernel
theorem dX6_advertisement_13 : decode cX6_advertisement 13 = .ok (.aload_n 0, 1) := by decide +kernel
theorem dX6_advertisement_14 : decode cX6_advertisement 14 = .ok (.iconst 1, 1) := by decide +kernel
theorem dX6_advertisement_15 : decode cX6_advertisement 15 = .ok (.invokevirtual 99, 3) := by decide +kernel
theorem dX6_advertisement_18 : decode cX6_advertisement 18 = .ok (.ireturn, 1) := by decide +kernel
theorem dX6_advertisement_19 : decode cX6_advertisement 19 = .ok (.iload_n 2, 1) := by decide +kernel
theorem dX6_advertisement_20 : decode cX6_advertisement 20 = .ok (.iconst 0, 1) := by decide +kernel
theorem dX6_advertisement_21 : decode cX6_advertisement 21 = .ok (.bipush 6, 2) := by decide +kernel
theorem dX6_advertisement_23 : decode cX6_advertisement 23 = .ok (.invokestatic 88, 3) := by decide +kernel
theorem dX6_advertisement_26 : decode cX6_advertisement 26 = .ok (.ifCond .ne 9, 3) := by decide +kernel
theorem dX6_advertisement_29 : decode cX6_advertisement 29 = .ok (.aload_n 0, 1) := by decide +kernel
theorem dX6_advertisement_30 : decode cX6_advertisement 30 = .ok (.iconst 2, 1) := by decide +kernel
theorem dX6_advertisement_31 : decode cX6_advertisement 31 = .ok (.invokevirtual 99, 3) := by decide +kernel
theorem dX6_advertisement_34 : decode cX6_advertisement 34 = .ok (.ireturn, 1) := by decide +kernel
theorem dX6_advertisement_35 : decode cX6_advertisement 35 = .ok (.iload_n 2, 1) := by decide +kernel
theorem dX6_advertisement_36 : decode cX6_advertisement 36 = .ok (.bipush 6, 2) := by decide +kernel
theorem dX6_advertisement_38 : decode cX6_advertisement 38 = .ok (.if_icmp .ge 14, 3) := by decide +kernel
theorem dX6_advertisement_41 : decode cX6_advertisement 41 = .ok (.aload_n 0, 1) := by decide +kernel
theorem dX6_advertisement_42 : decode cX6_advertisement 42 = .ok (.iload_n 1, 1) := by decide +kernel
theorem dX6_advertisement_43 : decode cX6_advertisement 43 = .ok (.iconst 1, 1) := by decide +kernel
theorem dX6_advertisement_44 : decode cX6_advertisement 44 = .ok (.iload_n 2, 1) := by decide +kernel
theorem dX6_advertisement_45 : decode cX6_advertisement 45 = .ok (.iadd, 1) := by decide +kernel
theorem dX6_advertisement_46 : decode cX6_advertisement 46 = .ok (.invokevirtual 96, 3) := by decide +kernel
theorem dX6_advertisement_49 : decode cX6_advertisement 49 = .ok (.goto 24, 3) := by decide +kernel
theorem dX6_advertisement_52 : decode cX6_advertisement 52 = .ok (.aload_n 0, 1) := by decide +kernel
theorem dX6_advertisement_53 : decode cX6_advertisement 53 = .ok (.iload_n 1, 1) := by decide +kernel
theorem dX6_advertisement_54 : decode cX6_advertisement 54 = .ok (.bipush 6, 2) := by decide +kernel
theorem dX6_advertisement_56 : decode cX6_advertisement 56 = .ok (.invokevirtual 96, 3) := by decide +kernel
theorem dX6_advertisement_59 : decode cX6_advertisement 59 = .ok (.aload_n 0, 1) := by decide +kernel
theorem dX6_advertisement_60 : decode cX6_advertisement 60 = .ok (.iload_n 1, 1) := by decide +kernel
theorem dX6_advertisement_61 : decode cX6_advertisement 61 = .ok (.iconst 4, 1) := by decide +kernel
theorem dX6_advertisement_62 : decode cX6_advertisement 62 = .ok (.invokevirtual 96, 3) := by decide +kernel
theorem dX6_advertisement_65 : decode cX6_advertisement 65 = .ok (.imul, 1) := by decide +kernel
theorem dX6_advertisement_66 : decode cX6_advertisement 66 = .ok (.aload_n 0, 1) := by decide +kernel
theorem dX6_advertisement_67 : decode cX6_advertisement 67 = .ok (.iload_n 1, 1) := by decide +kernel
theorem dX6_advertisement_68 : decode cX6_advertisement 68 = .ok (.iconst 5, 1) := by decide +kernel
theorem dX6_advertisement_69 : decode cX6_advertisement 69 = .ok (.invokevirtual 96, 3) := by decide +kernel
theorem dX6_advertisement_72 : decode cX6_advertisement 72 = .ok (.imul, 1) := by decide +kernel
theorem dX6_advertisement_73 : decode cX6_advertisement 73 = .ok (.ireturn, 1) := by decide +kernel
theorem dX6_isCell_0 : decode cX6_isCell 0 = .ok (.iload_n 0, 1) := by decide +kernel
theorem dX6_isCell_1 : decode cX6_isCell 1 = .ok (.iconst 0, 1) := by decide +kernel
theorem dX6_isCell_2 : decode cX6_isCell 2 = .ok (.iconst 3, 1) := by decide +kernel
theorem dX6_isCell_3 : decode cX6_isCell 3 = .ok (.invokestatic 88, 3) := by decide +kernel
theorem dX6_isCell_6 : decode cX6_isCell 6 = .ok (.ifCond .eq 26, 3) := by decide +kernel
theorem dX6_isCell_9 : decode cX6_isCell 9 = .ok (.iload_n 1, 1) := by decide +kernel
theorem dX6_isCell_10 : decode cX6_isCell 10 = .ok (.iconst 0, 1) := by decide +kernel
theorem dX6_isCell_11 : decode cX6_isCell 11 = .ok (.iconst 4, 1) := by decide +kernel
theorem dX6_isCell_12 : decode cX6_isCell 12 = .ok (.invokestatic 88, 3) := by decide +kernel
theorem dX6_isCell_15 : decode cX6_isCell 15 = .ok (.ifCond .eq 17, 3) := by decide +kernel
theorem dX6_isCell_18 : decode cX6_isCell 18 = .ok (.iload_n 2, 1) := by decide +kernel
theorem dX6_isCell_19 : decode cX6_isCell 19 = .ok (.iconst 0, 1) := by decide +kernel
theorem dX6_isCell_20 : decode cX6_isCell 20 = .ok (.bipush 23, 2) := by decide +kernel
theorem dX6_isCell_22 : decode cX6_isCell 22 = .ok (.invokestatic 88, 3) := by decide +kernel
theorem dX6_isCell_25 : decode cX6_isCell 25 = .ok (.ifCond .eq 7, 3) := by decide +kernel
theorem dX6_isCell_28 : decode cX6_isCell 28 = .ok (.iconst 1, 1) := by decide +kernel
theorem dX6_isCell_29 : decode cX6_isCell 29 = .ok (.goto 4, 3) := by decide +kernel
theorem dX6_isCell_32 : decode cX6_isCell 32 = .ok (.iconst 0, 1) := by decide +kernel
theorem dX6_isCell_33 : decode cX6_isCell 33 = .ok (.ireturn, 1) := by decide +kernel
theorem dX6_cell_0 : decode cX6_cell 0 = .ok (.aload_n 0, 1) := by decide +kernel
theorem dX6_cell_1 : decode cX6_cell 1 = .ok (.invokevirtual 198, 3) := by decide +kernel
theorem dX6_cell_4 : decode cX6_cell 4 = .ok (.iload_n 1, 1) := by decide +kernel
theorem dX6_cell_5 : decode cX6_cell 5 = .ok (.iload_n 2, 1) := by decide +kernel
theorem dX6_cell_6 : decode cX6_cell 6 = .ok (.iload_n 3, 1) := by decide +kernel
theorem dX6_cell_7 : decode cX6_cell 7 = .ok (.invokestatic 207, 3) := by decide +kernel
theorem dX6_cell_10 : decode cX6_cell 10 = .ok (.ifCond .eq 17, 3) := by decide +kernel
theorem dX6_cell_13 : decode cX6_cell 13 = .ok (.aload_n 0, 1) := by decide +kernel
theorem dX6_cell_14 : decode cX6_cell 14 = .ok (.getfield 33, 3) := by decide +kernel
theorem dX6_cell_17 : decode cX6_cell 17 = .ok (.iload_n 1, 1) := by decide +kernel
theorem dX6_cell_18 : decode cX6_cell 18 = .ok (.iload_n 2, 1) := by decide +kernel
theorem dX6_cell_19 : decode cX6_cell 19 = .ok (.iload_n 3, 1) := by decide +kernel
theorem dX6_cell_20 : decode cX6_cell 20 = .ok (.invokestatic 151, 3) := by decide +kernel
theorem dX6_cell_23 : decode cX6_cell 23 = .ok (.iaload, 1) := by decide +kernel
theorem dX6_cell_24 : decode cX6_cell 24 = .ok (.goto 8, 3) := by decide +kernel
theorem dX6_cell_27 : decode cX6_cell 27 = .ok (.aload_n 0, 1) := by decide +kernel
theorem dX6_cell_28 : decode cX6_cell 28 = .ok (.iconst 1, 1) := by decide +kernel
theorem dX6_cell_29 : decode cX6_cell 29 = .ok (.invokevirtual 99, 3) := by decide +kernel
theorem dX6_cell_32 : decode cX6_cell 32 = .ok (.ireturn, 1) := by decide +kernel
theorem dX6_owner_0 : decode cX6_owner 0 = .ok (.aload_n 0, 1) := by decide +kernel
theorem dX6_owner_1 : decode cX6_owner 1 = .ok (.invokevirtual 198, 3) := by decide +kernel
theorem dX6_owner_4 : decode cX6_owner 4 = .ok (.iload_n 1, 1) := by decide +kernel
theorem dX6_owner_5 : decode cX6_owner 5 = .ok (.iload_n 2, 1) := by decide +kernel
theorem dX6_owner_6 : decode cX6_owner 6 = .ok (.iload_n 3, 1) := by decide +kernel
theorem dX6_owner_7 : decode cX6_owner 7 = .ok (.invokestatic 207, 3) := by decide +kernel
theorem dX6_owner_10 : decode cX6_owner 10 = .ok (.ifCond .ne 9, 3) := by decide +kernel
theorem dX6_owner_13 : decode cX6_owner 13 = .ok (.aload_n 0, 1) := by decide +kernel
theorem dX6_owner_14 : decode cX6_owner 14 = .ok (.iconst 1, 1) := by decide +kernel
theorem dX6_owner_15 : decode cX6_owner 15 = .ok (.invokevirtual 99, 3) := by decide +kernel
theorem dX6_owner_18 : decode cX6_owner 18 = .ok (.ireturn, 1) := by decide +kernel
theorem dX6_owner_19 : decode cX6_owner 19 = .ok (.aload_n 0, 1) := by decide +kernel
theorem dX6_owner_20 : decode cX6_owner 20 = .ok (.getfield 36, 3) := by decide +kernel
theorem dX6_owner_23 : decode cX6_owner 23 = .ok (.iload_n 1, 1) := by decide +kernel
theorem dX6_owner_24 : decode cX6_owner 24 = .ok (.iload_n 2, 1) := by decide +kernel
theorem dX6_owner_25 : decode cX6_owner 25 = .ok (.iload_n 3, 1) := by decide +kernel
theorem dX6_owner_26 : decode cX6_owner 26 = .ok (.invokestatic 151, 3) := by decide +kernel
theorem dX6_owner_29 : decode cX6_owner 29 = .ok (.iaload, 1) := by decide +kernel
theorem dX6_owner_30 : decode cX6_owner 30 = .ok (.istore 4, 2) := by decide +kernel
theorem dX6_owner_32 : decode cX6_owner 32 = .ok (.iload 4, 2) := by decide +kernel
theorem dX6_owner_34 : decode cX6_owner 34 = .ok (.ifCond .ge 11, 3) := by decide +kernel
theorem dX6_owner_37 : decode cX6_owner 37 = .ok (.aload_n 0, 1) := by decide +kernel
theorem dX6_owner_38 : decode cX6_owner 38 = .ok (.iconst 2, 1) := by decide +kernel
theorem dX6_owner_39 : decode cX6_owner 39 = .ok (.invokevirtual 99, 3) := by decide +kernel
theorem dX6_owner_42 : decode cX6_owner 42 = .ok (.goto 5, 3) := by decide +kernel
theorem dX6_owner_45 : decode cX6_owner 45 = .ok (.iload 4, 2) := by decide +kernel
theorem dX6_owner_47 : decode cX6_owner 47 = .ok (.ireturn, 1) := by decide +kernel
theorem dX6_part_0 : decode cX6_part 0 = .ok (.aload_n 0, 1) := by decide +kernel
theorem dX6_part_1 : decode cX6_part 1 = .ok (.invokevirtual 198, 3) := by decide +kernel
theorem dX6_part_4 : decode cX6_part 4 = .ok (.aload_n 0, 1) := by decide +kernel
theorem dX6_part_5 : decode cX6_part 5 = .ok (.iload_n 1, 1) := by decide +kernel
theorem dX6_part_6 : decode cX6_part 6 = .ok (.invokevirtual 111, 3) := by decide +kernel
theorem dX6_part_9 : decode cX6_part 9 = .ok (.ifCond .eq 19, 3) := by decide +kernel
theorem dX6_part_12 : decode cX6_part 12 = .ok (.iload_n 2, 1) := by decide +kernel
theorem dX6_part_13 : decode cX6_part 13 = .ok (.iconst 0, 1) := by decide +kernel
theorem dX6_part_14 : decode cX6_part 14 = .ok (.aload_n 0, 1) := by decide +kernel
theorem dX6_part_15 : decode cX6_part 15 = .ok (.getfield 45, 3) := by decide +kernel
theorem dX6_part_18 : decode cX6_part 18 = .ok (.iload_n 1, 1) := by decide +kernel
theorem dX6_part_19 : decode cX6_part 19 = .ok (.iaload, 1) := by decide +kernel
theorem dX6_part_20 : decode cX6_part 20 = .ok (.iconst 1, 1) := by decide +kernel
theorem dX6_part_21 : decode cX6_part 21 = .ok (.isub, 1) := by decide +kernel
theorem dX6_part_22 : decode cX6_part 22 = .ok (.invokestatic 88, 3) := by decide +kernel
theorem dX6_part_25 : decode cX6_part 25 = .ok (.ifCond .ne 9, 3) := by decide +kernel
theorem dX6_part_28 : decode cX6_part 28 = .ok (.aload_n 0, 1) := by decide +kernel
theorem dX6_part_29 : decode cX6_part 29 = .ok (.iconst 1, 1) := by decide +kernel
theorem dX6_part_30 : decode cX6_part 30 = .ok (.invokevirtual 99, 3) := by decide +kernel
theorem dX6_part_33 : decode cX6_part 33 = .ok (.ireturn, 1) := by decide +kernel
theorem dX6_part_34 : decode cX6_part 34 = .ok (.iload_n 3, 1) := by decide +kernel
theorem dX6_part_35 : decode cX6_part 35 = .ok (.iconst 0, 1) := by decide +kernel
theorem dX6_part_36 : decode cX6_part 36 = .ok (.bipush 7, 2) := by decide +kernel
theorem dX6_part_38 : decode cX6_part 38 = .ok (.invokestatic 88, 3) := by decide +kernel
theorem dX6_part_41 : decode cX6_part 41 = .ok (.ifCond .eq 21, 3) := by decide +kernel
theorem dX6_part_44 : decode cX6_part 44 = .ok (.aload_n 0, 1) := by decide +kernel
theorem dX6_part_45 : decode cX6_part 45 = .ok (.getfield 48, 3) := by decide +kernel
theorem dX6_part_48 : decode cX6_part 48 = .ok (.bipush 8, 2) := by decide +kernel
theorem dX6_part_50 : decode cX6_part 50 = .ok (.iconst 4, 1) := by decide +kernel
theorem dX6_part_51 : decode cX6_part 51 = .ok (.iload_n 1, 1) := by decide +kernel
theorem dX6_part_52 : decode cX6_part 52 = .ok (.imul, 1) := by decide +kernel
theorem dX6_part_53 : decode cX6_part 53 = .ok (.iload_n 2, 1) := by decide +kernel
theorem dX6_part_54 : decode cX6_part 54 = .ok (.iadd, 1) := by decide +kernel
theorem dX6_part_55 : decode cX6_part 55 = .ok (.imul, 1) := by decide +kernel
theorem dX6_part_56 : decode cX6_part 56 = .ok (.iload_n 3, 1) := by decide +kernel
theorem dX6_part_57 : decode cX6_part 57 = .ok (.iadd, 1) := by decide +kernel
theorem dX6_part_58 : decode cX6_part 58 = .ok (.iaload, 1) := by decide +kernel
theorem dX6_part_59 : decode cX6_part 59 = .ok (.goto 8, 3) := by decide +kernel
theorem dX6_part_62 : decode cX6_part 62 = .ok (.aload_n 0, 1) := by decide +kernel
theorem dX6_part_63 : decode cX6_part 63 = .ok (.iconst 2, 1) := by decide +kernel
theorem dX6_part_64 : decode cX6_part 64 = .ok (.invokevirtual 99, 3) := by decide +kernel
theorem dX6_part_67 : decode cX6_part 67 = .ok (.ireturn, 1) := by decide +kernel
theorem dX6_locate_0 : decode cX6_locate 0 = .ok (.aload_n 0, 1) := by decide +kernel
theorem dX6_locate_1 : decode cX6_locate 1 = .ok (.invokevirtual 198, 3) := by decide +kernel
theorem dX6_locate_4 : decode cX6_locate 4 = .ok (.aload_n 0, 1) := by decide +kernel
theorem dX6_locate_5 : decode cX6_locate 5 = .ok (.iload_n 1, 1) := by decide +kernel
theorem dX6_locate_6 : decode cX6_locate 6 = .ok (.invokevirtual 111, 3) := by decide +kernel
theorem dX6_locate_9 : decode cX6_locate 9 = .ok (.ifCond .eq 19, 3) := by decide +kernel
theorem dX6_locate_12 : decode cX6_locate 12 = .ok (.iload_n 2, 1) := by decide +kernel
theorem dX6_locate_13 : decode cX6_locate 13 = .ok (.iconst 0, 1) := by decide +kernel
theorem dX6_locate_14 : decode cX6_locate 14 = .ok (.aload_n 0, 1) := by decide +kernel
theorem dX6_locate_15 : decode cX6_locate 15 = .ok (.iload_n 1, 1) := by decide +kernel
theorem dX6_locate_16 : decode cX6_locate 16 = .ok (.iconst 4, 1) := by decide +kernel
theorem dX6_locate_17 : decode cX6_locate 17 = .ok (.invokevirtual 92, 3) := by decide +kernel
theorem dX6_locate_20 : decode cX6_locate 20 = .ok (.iconst 1, 1) := by decide +kernel
theorem dX6_locate_21 : decode cX6_locate 21 = .ok (.isub, 1) := by decide +kernel
theorem dX6_locate_22 : decode cX6_locate 22 = .ok (.invokestatic 88, 3) := by decide +kernel
theorem dX6_locate_25 : decode cX6_locate 25 = .ok (.ifCond .ne 9, 3) := by decide +kernel
theorem dX6_locate_28 : decode cX6_locate 28 = .ok (.aload_n 0, 1) := by decide +kernel
theorem dX6_locate_29 : decode cX6_locate 29 = .ok (.iconst 1, 1) := by decide +kernel
theorem dX6_locate_30 : decode cX6_locate 30 = .ok (.invokevirtual 99, 3) := by decide +kernel
theorem dX6_locate_33 : decode cX6_locate 33 = .ok (.ireturn, 1) := by decide +kernel
theorem dX6_locate_34 : decode cX6_locate 34 = .ok (.iconst 0, 1) := by decide +kernel
theorem dX6_locate_35 : decode cX6_locate 35 = .ok (.istore_n 3, 1) := by decide +kernel
theorem dX6_locate_36 : decode cX6_locate 36 = .ok (.iload_n 3, 1) := by decide +kernel
theorem dX6_locate_37 : decode cX6_locate 37 = .ok (.aload_n 0, 1) := by decide +kernel
theorem dX6_locate_38 : decode cX6_locate 38 = .ok (.getfield 45, 3) := by decide +kernel
theorem dX6_locate_41 : decode cX6_locate 41 = .ok (.iload_n 1, 1) := by decide +kernel
theorem dX6_locate_42 : decode cX6_locate 42 = .ok (.iaload, 1) := by decide +kernel
theorem dX6_locate_43 : decode cX6_locate 43 = .ok (.if_icmp .ge 238, 3) := by decide +kernel
theorem dX6_locate_46 : decode cX6_locate 46 = .ok (.bipush 8, 2) := by decide +kernel
theorem dX6_locate_48 : decode cX6_locate 48 = .ok (.iconst 4, 1) := by decide +kernel
theorem dX6_locate_49 : decode cX6_locate 49 = .ok (.iload_n 1, 1) := by decide +kernel
theorem dX6_locate_50 : decode cX6_locate 50 = .ok (.imul, 1) := by decide +kernel
theorem dX6_locate_51 : decode cX6_locate 51 = .ok (.iload_n 3, 1) := by decide +kernel
theorem dX6_locate_52 : decode cX6_locate 52 = .ok (.iadd, 1) := by decide +kernel
theorem dX6_locate_53 : decode cX6_locate 53 = .ok (.imul, 1) := by decide +kernel
theorem dX6_locate_54 : decode cX6_locate 54 = .ok (.istore 4, 2) := by decide +kernel
theorem dX6_locate_56 : decode cX6_locate 56 = .ok (.iload_n 2, 1) := by decide +kernel
theorem dX6_locate_57 : decode cX6_locate 57 = .ok (.aload_n 0, 1) := by decide +kernel
theorem dX6_locate_58 : decode cX6_locate 58 = .ok (.getfield 48, 3) := by decide +kernel
theorem dX6_locate_61 : decode cX6_locate 61 = .ok (.iload 4, 2) := by decide +kernel
theorem dX6_locate_63 : decode cX6_locate 63 = .ok (.bipush 6, 2) := by decide +kernel
theorem dX6_locate_65 : decode cX6_locate 65 = .ok (.iadd, 1) := by decide +kernel
theorem dX6_locate_66 : decode cX6_locate 66 = .ok (.iaload, 1) := by decide +kernel
theorem dX6_locate_67 : decode cX6_locate 67 = .ok (.isub, 1) := by decide +kernel
theorem dX6_locate_68 : decode cX6_locate 68 = .ok (.istore 5, 2) := by decide +kernel
theorem dX6_locate_70 : decode cX6_locate 70 = .ok (.iload 5, 2) := by decide +kernel
theorem dX6_locate_72 : decode cX6_locate 72 = .ok (.iconst 0, 1) := by decide +kernel
theorem dX6_locate_73 : decode cX6_locate 73 = .ok (.aload_n 0, 1) := by decide +kernel
theorem dX6_locate_74 : decode cX6_locate 74 = .ok (.getfield 48, 3) := by decide +kernel
theorem dX6_locate_77 : decode cX6_locate 77 = .ok (.iload 4, 2) := by decide +kernel
theorem dX6_locate_79 : decode cX6_locate 79 = .ok (.iconst 5, 1) := by decide +kernel
theorem dX6_locate_80 : decode cX6_locate 80 = .ok (.iadd, 1) := by decide +kernel
theorem dX6_locate_81 : decode cX6_locate 81 = .ok (.iaload, 1) := by decide +kernel
theorem dX6_locate_82 : decode cX6_locate 82 = .ok (.iconst 1, 1) := by decide +kernel
theorem dX6_locate_83 : decode cX6_locate 83 = .ok (.isub, 1) := by decide +kernel
theorem dX6_locate_84 : decode cX6_locate 84 = .ok (.invokestatic 88, 3) := by decide +kernel
theorem dX6_locate_87 : decode cX6_locate 87 = .ok (.ifCond .ne 6, 3) := by decide +kernel
theorem dX6_locate_90 : decode cX6_locate 90 = .ok (.goto 185, 3) := by decide +kernel
theorem dX6_locate_93 : decode cX6_locate 93 = .ok (.aload_n 0, 1) := by decide +kernel
theorem dX6_locate_94 : decode cX6_locate 94 = .ok (.getfield 48, 3) := by decide +kernel
theorem dX6_locate_97 : decode cX6_locate 97 = .ok (.iload 4, 2) := by decide +kernel
theorem dX6_locate_99 : decode cX6_locate 99 = .ok (.iconst 2, 1) := by decide +kernel
theorem dX6_locate_100 : decode cX6_locate 100 = .ok (.iadd, 1) := by decide +kernel
theorem dX6_locate_101 : decode cX6_locate 101 = .ok (.iaload, 1) := by decide +kernel
theorem dX6_locate_102 : decode cX6_locate 102 = .ok (.iload_n 3, 1) := by decide +kernel
theorem dX6_locate_103 : decode cX6_locate 103 = .ok (.ifCond .ne 11, 3) := by decide +kernel
theorem dX6_locate_106 : decode cX6_locate 106 = .ok (.aload_n 0, 1) := by decide +kernel
theorem dX6_locate_107 : decode cX6_locate 107 = .ok (.iload_n 1, 1) := by decide +kernel
theorem dX6_locate_108 : decode cX6_locate 108 = .ok (.invokevirtual 164, 3) := by decide +kernel
theorem dX6_locate_111 : decode cX6_locate 111 = .ok (.goto 4, 3) := by decide +kernel
theorem dX6_locate_114 : decode cX6_locate 114 = .ok (.iconst 1, 1) := by decide +kernel
theorem dX6_locate_115 : decode cX6_locate 115 = .ok (.iadd, 1) := by decide +kernel
theorem dX6_locate_116 : decode cX6_locate 116 = .ok (.istore 6, 2) := by decide +kernel
theorem dX6_locate_118 : decode cX6_locate 118 = .ok (.iconst 0, 1) := by decide +kernel
theorem dX6_locate_119 : decode cX6_locate 119 = .ok (.istore 7, 2) := by decide +kernel
theorem dX6_locate_121 : decode cX6_locate 121 = .ok (.aload_n 0, 1) := by decide +kernel
theorem dX6_locate_122 : decode cX6_locate 122 = .ok (.getfield 48, 3) := by decide +kernel
theorem dX6_locate_125 : decode cX6_locate 125 = .ok (.iload 4, 2) := by decide +kernel
theorem dX6_locate_127 : decode cX6_locate 127 = .ok (.iconst 5, 1) := by decide +kernel
theorem dX6_locate_128 : decode cX6_locate 128 = .ok (.iadd, 1) := by decide +kernel
theorem dX6_locate_129 : decode cX6_locate 129 = .ok (.iaload, 1) := by decide +kernel
theorem dX6_locate_130 : decode cX6_locate 130 = .ok (.aload_n 0, 1) := by decide +kernel
theorem dX6_locate_131 : decode cX6_locate 131 = .ok (.getfield 48, 3) := by decide +kernel
theorem dX6_locate_134 : decode cX6_locate 134 = .ok (.iload 4, 2) := by decide +kernel
theorem dX6_locate_136 : decode cX6_locate 136 = .ok (.iconst 3, 1) := by decide +kernel
theorem dX6_locate_137 : decode cX6_locate 137 = .ok (.iadd, 1) := by decide +kernel
theorem dX6_locate_138 : decode cX6_locate 138 = .ok (.iaload, 1) := by decide +kernel
theorem dX6_locate_139 : decode cX6_locate 139 = .ok (.idiv, 1) := by decide +kernel
theorem dX6_locate_140 : decode cX6_locate 140 = .ok (.aload_n 0, 1) := by decide +kernel
theorem dX6_locate_141 : decode cX6_locate 141 = .ok (.getfield 48, 3) := by decide +kernel
theorem dX6_locate_144 : decode cX6_locate 144 = .ok (.iload 4, 2) := by decide +kernel
theorem dX6_locate_146 : decode cX6_locate 146 = .ok (.iconst 5, 1) := by decide +kernel
theorem dX6_locate_147 : decode cX6_locate 147 = .ok (.iadd, 1) := by decide +kernel
theorem dX6_locate_148 : decode cX6_locate 148 = .ok (.iaload, 1) := by decide +kernel
theorem dX6_locate_149 : decode cX6_locate 149 = .ok (.aload_n 0, 1) := by decide +kernel
theorem dX6_locate_150 : decode cX6_locate 150 = .ok (.getfield 48, 3) := by decide +kernel
theorem dX6_locate_153 : decode cX6_locate 153 = .ok (.iload 4, 2) := by decide +kernel
theorem dX6_locate_155 : decode cX6_locate 155 = .ok (.iconst 3, 1) := by decide +kernel
theorem dX6_locate_156 : decode cX6_locate 156 = .ok (.iadd, 1) := by decide +kernel
theorem dX6_locate_157 : decode cX6_locate 157 = .ok (.iaload, 1) := by decide +kernel
theorem dX6_locate_158 : decode cX6_locate 158 = .ok (.irem, 1) := by decide +kernel
theorem dX6_locate_159 : decode cX6_locate 159 = .ok (.ifCond .le 7, 3) := by decide +kernel
theorem dX6_locate_162 : decode cX6_locate 162 = .ok (.iconst 1, 1) := by decide +kernel
theorem dX6_locate_163 : decode cX6_locate 163 = .ok (.goto 4, 3) := by decide +kernel
theorem dX6_locate_166 : decode cX6_locate 166 = .ok (.iconst 0, 1) := by decide +kernel
theorem dX6_locate_167 : decode cX6_locate 167 = .ok (.iadd, 1) := by decide +kernel
theorem dX6_locate_168 : decode cX6_locate 168 = .ok (.istore 8, 2) := by decide +kernel
theorem dX6_locate_170 : decode cX6_locate 170 = .ok (.iload 5, 2) := by decide +kernel
theorem dX6_locate_172 : decode cX6_locate 172 = .ok (.iload 8, 2) := by decide +kernel
theorem dX6_locate_174 : decode cX6_locate 174 = .ok (.if_icmp .lt 67, 3) := by decide +kernel
theorem dX6_locate_177 : decode cX6_locate 177 = .ok (.iload 5, 2) := by decide +kernel
theorem dX6_locate_179 : decode cX6_locate 179 = .ok (.iload 8, 2) := by decide +kernel
theorem dX6_locate_181 : decode cX6_locate 181 = .ok (.isub, 1) := by decide +kernel
theorem dX6_locate_182 : decode cX6_locate 182 = .ok (.istore 5, 2) := by decide +kernel
theorem dX6_locate_184 : decode cX6_locate 184 = .ok (.iinc 7 1, 3) := by decide +kernel
theorem dX6_locate_187 : decode cX6_locate 187 = .ok (.aload_n 0, 1) := by decide +kernel
theorem dX6_locate_188 : decode cX6_locate 188 = .ok (.getfield 48, 3) := by decide +kernel
theorem dX6_locate_191 : decode cX6_locate 191 = .ok (.iload 4, 2) := by decide +kernel
theorem dX6_locate_193 : decode cX6_locate 193 = .ok (.iconst 5, 1) := by decide +kernel
theorem dX6_locate_194 : decode cX6_locate 194 = .ok (.iadd, 1) := by decide +kernel
theorem dX6_locate_195 : decode cX6_locate 195 = .ok (.iaload, 1) := by decide +kernel
theorem dX6_locate_196 : decode cX6_locate 196 = .ok (.aload_n 0, 1) := by decide +kernel
theorem dX6_locate_197 : decode cX6_locate 197 = .ok (.getfield 48, 3) := by decide +kernel
theorem dX6_locate_200 : decode cX6_locate 200 = .ok (.iload 4, 2) := by decide +kernel
theorem dX6_locate_202 : decode cX6_locate 202 = .ok (.iconst 3, 1) := by decide +kernel
theorem dX6_locate_203 : decode cX6_locate 203 = .ok (.iadd, 1) := by decide +kernel
theorem dX6_locate_204 : decode cX6_locate 204 = .ok (.iaload, 1) := by decide +kernel
theorem dX6_locate_205 : decode cX6_locate 205 = .ok (.idiv, 1) := by decide +kernel
theorem dX6_locate_206 : decode cX6_locate 206 = .ok (.iload 7, 2) := by decide +kernel
theorem dX6_locate_208 : decode cX6_locate 208 = .ok (.aload_n 0, 1) := by decide +kernel
theorem dX6_locate_209 : decode cX6_locate 209 = .ok (.getfield 48, 3) := by decide +kernel
theorem dX6_locate_212 : decode cX6_locate 212 = .ok (.iload 4, 2) := by decide +kernel
theorem dX6_locate_214 : decode cX6_locate 214 = .ok (.iconst 5, 1) := by decide +kernel
theorem dX6_locate_215 : decode cX6_locate 215 = .ok (.iadd, 1) := by decide +kernel
theorem dX6_locate_216 : decode cX6_locate 216 = .ok (.iaload, 1) := by decide +kernel
theorem dX6_locate_217 : decode cX6_locate 217 = .ok (.aload_n 0, 1) := by decide +kernel
theorem dX6_locate_218 : decode cX6_locate 218 = .ok (.getfield 48, 3) := by decide +kernel
theorem dX6_locate_221 : decode cX6_locate 221 = .ok (.iload 4, 2) := by decide +kernel
theorem dX6_locate_223 : decode cX6_locate 223 = .ok (.iconst 3, 1) := by decide +kernel
theorem dX6_locate_224 : decode cX6_locate 224 = .ok (.iadd, 1) := by decide +kernel
theorem dX6_locate_225 : decode cX6_locate 225 = .ok (.iaload, 1) := by decide +kernel
theorem dX6_locate_226 : decode cX6_locate 226 = .ok (.irem, 1) := by decide +kernel
theorem dX6_locate_227 : decode cX6_locate 227 = .ok (.if_icmp .ge 7, 3) := by decide +kernel
theorem dX6_locate_230 : decode cX6_locate 230 = .ok (.iconst 1, 1) := by decide +kernel
theorem dX6_locate_231 : decode cX6_locate 231 = .ok (.goto 4, 3) := by decide +kernel
theorem dX6_locate_234 : decode cX6_locate 234 = .ok (.iconst 0, 1) := by decide +kernel
theorem dX6_locate_235 : decode cX6_locate 235 = .ok (.iadd, 1) := by decide +kernel
theorem dX6_locate_236 : decode cX6_locate 236 = .ok (.istore 8, 2) := by decide +kernel
theorem dX6_locate_238 : decode cX6_locate 238 = .ok (.goto (-68), 3) := by decide +kernel
theorem dX6_locate_241 : decode cX6_locate 241 = .ok (.sipush 1000, 3) := by decide +kernel
theorem dX6_locate_244 : decode cX6_locate 244 = .ok (.aload_n 0, 1) := by decide +kernel
theorem dX6_locate_245 : decode cX6_locate 245 = .ok (.getfield 48, 3) := by decide +kernel
theorem dX6_locate_248 : decode cX6_locate 248 = .ok (.iload 4, 2) := by decide +kernel
theorem dX6_locate_250 : decode cX6_locate 250 = .ok (.iaload, 1) := by decide +kernel
theorem dX6_locate_251 : decode cX6_locate 251 = .ok (.imul, 1) := by decide +kernel
theorem dX6_locate_252 : decode cX6_locate 252 = .ok (.bipush 100, 2) := by decide +kernel
theorem dX6_locate_254 : decode cX6_locate 254 = .ok (.aload_n 0, 1) := by decide +kernel
theorem dX6_locate_255 : decode cX6_locate 255 = .ok (.getfield 48, 3) := by decide +kernel
theorem dX6_locate_258 : decode cX6_locate 258 = .ok (.iload 4, 2) := by decide +kernel
theorem dX6_locate_260 : decode cX6_locate 260 = .ok (.iconst 1, 1) := by decide +kernel
theorem dX6_locate_261 : decode cX6_locate 261 = .ok (.iadd, 1) := by decide +kernel
theorem dX6_locate_262 : decode cX6_locate 262 = .ok (.iaload, 1) := by decide +kernel
theorem dX6_locate_263 : decode cX6_locate 263 = .ok (.iload 7, 2) := by decide +kernel
theorem dX6_locate_265 : decode cX6_locate 265 = .ok (.iadd, 1) := by decide +kernel
theorem dX6_locate_266 : decode cX6_locate 266 = .ok (.imul, 1) := by decide +kernel
theorem dX6_locate_267 : decode cX6_locate 267 = .ok (.iadd, 1) := by decide +kernel
theorem dX6_locate_268 : decode cX6_locate 268 = .ok (.iload 6, 2) := by decide +kernel
theorem dX6_locate_270 : decode cX6_locate 270 = .ok (.iadd, 1) := by decide +kernel
theorem dX6_locate_271 : decode cX6_locate 271 = .ok (.iload 5, 2) := by decide +kernel
theorem dX6_locate_273 : decode cX6_locate 273 = .ok (.iadd, 1) := by decide +kernel
theorem dX6_locate_274 : decode cX6_locate 274 = .ok (.ireturn, 1) := by decide +kernel
theorem dX6_locate_275 : decode cX6_locate 275 = .ok (.iinc 3 1, 3) := by decide +kernel
theorem dX6_locate_278 : decode cX6_locate 278 = .ok (.goto (-242), 3) := by decide +kernel
theorem dX6_locate_281 : decode cX6_locate 281 = .ok (.aload_n 0, 1) := by decide +kernel
theorem dX6_locate_282 : decode cX6_locate 282 = .ok (.iconst 2, 1) := by decide +kernel
theorem dX6_locate_283 : decode cX6_locate 283 = .ok (.invokevirtual 99, 3) := by decide +kernel
theorem dX6_locate_286 : decode cX6_locate 286 = .ok (.ireturn, 1) := by decide +kernel
theorem dX6_ranked_0 : decode cX6_ranked 0 = .ok (.aload_n 0, 1) := by decide +kernel
theorem dX6_ranked_1 : decode cX6_ranked 1 = .ok (.invokevirtual 198, 3) := by decide +kernel
theorem dX6_ranked_4 : decode cX6_ranked 4 = .ok (.iload_n 1, 1) := by decide +kernel
theorem dX6_ranked_5 : decode cX6_ranked 5 = .ok (.iconst 0, 1) := by decide +kernel
theorem dX6_ranked_6 : decode cX6_ranked 6 = .ok (.aload_n 0, 1) := by decide +kernel
theorem dX6_ranked_7 : decode cX6_ranked 7 = .ok (.getfield 54, 3) := by decide +kernel
theorem dX6_ranked_10 : decode cX6_ranked 10 = .ok (.iconst 1, 1) := by decide +kernel
theorem dX6_ranked_11 : decode cX6_ranked 11 = .ok (.isub, 1) := by decide +kernel
theorem dX6_ranked_12 : decode cX6_ranked 12 = .ok (.invokestatic 88, 3) := by decide +kernel
theorem dX6_ranked_15 : decode cX6_ranked 15 = .ok (.ifCond .eq 12, 3) := by decide +kernel
theorem dX6_ranked_18 : decode cX6_ranked 18 = .ok (.aload_n 0, 1) := by decide +kernel
theorem dX6_ranked_19 : decode cX6_ranked 19 = .ok (.getfield 39, 3) := by decide +kernel
theorem dX6_ranked_22 : decode cX6_ranked 22 = .ok (.iload_n 1, 1) := by decide +kernel
theorem dX6_ranked_23 : decode cX6_ranked 23 = .ok (.iaload, 1) := by decide +kernel
theorem dX6_ranked_24 : decode cX6_ranked 24 = .ok (.goto 8, 3) := by decide +kernel
theorem dX6_ranked_27 : decode cX6_ranked 27 = .ok (.aload_n 0, 1) := by decide +kernel
theorem dX6_ranked_28 : decode cX6_ranked 28 = .ok (.iconst 1, 1) := by decide +kernel
theorem dX6_ranked_29 : decode cX6_ranked 29 = .ok (.invokevirtual 99, 3) := by decide +kernel
theorem dX6_ranked_32 : decode cX6_ranked 32 = .ok (.ireturn, 1) := by decide +kernel
theorem dX6_fateOf_0 : decode cX6_fateOf 0 = .ok (.aload_n 0, 1) := by decide +kernel
theorem dX6_fateOf_1 : decode cX6_fateOf 1 = .ok (.getfield 42, 3) := by decide +kernel
theorem dX6_fateOf_4 : decode cX6_fateOf 4 = .ok (.iload_n 1, 1) := by decide +kernel
theorem dX6_fateOf_5 : decode cX6_fateOf 5 = .ok (.iaload, 1) := by decide +kernel
theorem dX6_fateOf_6 : decode cX6_fateOf 6 = .ok (.ifCond .ge 5, 3) := by decide +kernel
theorem dX6_fateOf_9 : decode cX6_fateOf 9 = .ok (.iconst 3, 1) := by decide +kernel
theorem dX6_fateOf_10 : decode cX6_fateOf 10 = .ok (.ireturn, 1) := by decide +kernel
theorem dX6_fateOf_11 : decode cX6_fateOf 11 = .ok (.aload_n 0, 1) := by decide +kernel
theorem dX6_fateOf_12 : decode cX6_fateOf 12 = .ok (.getfield 42, 3) := by decide +kernel
theorem dX6_fateOf_15 : decode cX6_fateOf 15 = .ok (.iload_n 1, 1) := by decide +kernel
theorem dX6_fateOf_16 : decode cX6_fateOf 16 = .ok (.iaload, 1) := by decide +kernel
theorem dX6_fateOf_17 : decode cX6_fateOf 17 = .ok (.aload_n 0, 1) := by decide +kernel
theorem dX6_fateOf_18 : decode cX6_fateOf 18 = .ok (.iload_n 1, 1) := by decide +kernel
theorem dX6_fateOf_19 : decode cX6_fateOf 19 = .ok (.iconst 1, 1) := by decide +kernel
theorem dX6_fateOf_20 : decode cX6_fateOf 20 = .ok (.invokevirtual 92, 3) := by decide +kernel
theorem dX6_fateOf_23 : decode cX6_fateOf 23 = .ok (.if_icmp .eq 5, 3) := by decide +kernel
theorem dX6_fateOf_26 : decode cX6_fateOf 26 = .ok (.iconst 2, 1) := by decide +kernel
theorem dX6_fateOf_27 : decode cX6_fateOf 27 = .ok (.ireturn, 1) := by decide +kernel
theorem dX6_fateOf_28 : decode cX6_fateOf 28 = .ok (.aload_n 0, 1) := by decide +kernel
theorem dX6_fateOf_29 : decode cX6_fateOf 29 = .ok (.iload_n 1, 1) := by decide +kernel
theorem dX6_fateOf_30 : decode cX6_fateOf 30 = .ok (.invokevirtual 204, 3) := by decide +kernel
theorem dX6_fateOf_33 : decode cX6_fateOf 33 = .ok (.aload_n 0, 1) := by decide +kernel
theorem dX6_fateOf_34 : decode cX6_fateOf 34 = .ok (.iload_n 1, 1) := by decide +kernel
theorem dX6_fateOf_35 : decode cX6_fateOf 35 = .ok (.iconst 4, 1) := by decide +kernel
theorem dX6_fateOf_36 : decode cX6_fateOf 36 = .ok (.invokevirtual 92, 3) := by decide +kernel
theorem dX6_fateOf_39 : decode cX6_fateOf 39 = .ok (.if_icmp .ge 7, 3) := by decide +kernel
theorem dX6_fateOf_42 : decode cX6_fateOf 42 = .ok (.iconst 1, 1) := by decide +kernel
theorem dX6_fateOf_43 : decode cX6_fateOf 43 = .ok (.goto 4, 3) := by decide +kernel
theorem dX6_fateOf_46 : decode cX6_fateOf 46 = .ok (.iconst 0, 1) := by decide +kernel
theorem dX6_fateOf_47 : decode cX6_fateOf 47 = .ok (.ireturn, 1) := by decide +kernel
theorem dX6_fate_0 : decode cX6_fate 0 = .ok (.aload_n 0, 1) := by decide +kernel
theorem dX6_fate_1 : decode cX6_fate 1 = .ok (.invokevirtual 198, 3) := by decide +kernel
theorem dX6_fate_4 : decode cX6_fate 4 = .ok (.aload_n 0, 1) := by decide +kernel
theorem dX6_fate_5 : decode cX6_fate 5 = .ok (.iload_n 1, 1) := by decide +kernel
theorem dX6_fate_6 : decode cX6_fate 6 = .ok (.invokevirtual 111, 3) := by decide +kernel
theorem dX6_fate_9 : decode cX6_fate 9 = .ok (.ifCond .eq 11, 3) := by decide +kernel
theorem dX6_fate_12 : decode cX6_fate 12 = .ok (.aload_n 0, 1) := by decide +kernel
theorem dX6_fate_13 : decode cX6_fate 13 = .ok (.iload_n 1, 1) := by decide +kernel
theorem dX6_fate_14 : decode cX6_fate 14 = .ok (.invokevirtual 210, 3) := by decide +kernel
theorem dX6_fate_17 : decode cX6_fate 17 = .ok (.goto 8, 3) := by decide +kernel
theorem dX6_fate_20 : decode cX6_fate 20 = .ok (.aload_n 0, 1) := by decide +kernel
theorem dX6_fate_21 : decode cX6_fate 21 = .ok (.iconst 1, 1) := by decide +kernel
theorem dX6_fate_22 : decode cX6_fate 22 = .ok (.invokevirtual 99, 3) := by decide +kernel
theorem dX6_fate_25 : decode cX6_fate 25 = .ok (.ireturn, 1) := by decide +kernel
theorem dX6_blamed_0 : decode cX6_blamed 0 = .ok (.aload_n 0, 1) := by decide +kernel
theorem dX6_blamed_1 : decode cX6_blamed 1 = .ok (.invokevirtual 198, 3) := by decide +kernel
theorem dX6_blamed_4 : decode cX6_blamed 4 = .ok (.aload_n 0, 1) := by decide +kernel
theorem dX6_blamed_5 : decode cX6_blamed 5 = .ok (.iload_n 1, 1) := by decide +kernel
theorem dX6_blamed_6 : decode cX6_blamed 6 = .ok (.invokevirtual 111, 3) := by decide +kernel
theorem dX6_blamed_9 : decode cX6_blamed 9 = .ok (.ifCond .ne 9, 3) := by decide +kernel
theorem dX6_blamed_12 : decode cX6_blamed 12 = .ok (.aload_n 0, 1) := by decide +kernel
theorem dX6_blamed_13 : decode cX6_blamed 13 = .ok (.iconst 1, 1) := by decide +kernel
theorem dX6_blamed_14 : decode cX6_blamed 14 = .ok (.invokevirtual 99, 3) := by decide +kernel
theorem dX6_blamed_17 : decode cX6_blamed 17 = .ok (.ireturn, 1) := by decide +kernel
theorem dX6_blamed_18 : decode cX6_blamed 18 = .ok (.aload_n 0, 1) := by decide +kernel
theorem dX6_blamed_19 : decode cX6_blamed 19 = .ok (.getfield 42, 3) := by decide +kernel
theorem dX6_blamed_22 : decode cX6_blamed 22 = .ok (.iload_n 1, 1) := by decide +kernel
theorem dX6_blamed_23 : decode cX6_blamed 23 = .ok (.iaload, 1) := by decide +kernel
theorem dX6_blamed_24 : decode cX6_blamed 24 = .ok (.aload_n 0, 1) := by decide +kernel
theorem dX6_blamed_25 : decode cX6_blamed 25 = .ok (.iload_n 1, 1) := by decide +kernel
theorem dX6_blamed_26 : decode cX6_blamed 26 = .ok (.iconst 1, 1) := by decide +kernel
theorem dX6_blamed_27 : decode cX6_blamed 27 = .ok (.invokevirtual 92, 3) := by decide +kernel
theorem dX6_blamed_30 : decode cX6_blamed 30 = .ok (.if_icmp .ne 9, 3) := by decide +kernel
theorem dX6_blamed_33 : decode cX6_blamed 33 = .ok (.aload_n 0, 1) := by decide +kernel
theorem dX6_blamed_34 : decode cX6_blamed 34 = .ok (.iconst 2, 1) := by decide +kernel
theorem dX6_blamed_35 : decode cX6_blamed 35 = .ok (.invokevirtual 99, 3) := by decide +kernel
theorem dX6_blamed_38 : decode cX6_blamed 38 = .ok (.ireturn, 1) := by decide +kernel
theorem dX6_blamed_39 : decode cX6_blamed 39 = .ok (.aload_n 0, 1) := by decide +kernel
theorem dX6_blamed_40 : decode cX6_blamed 40 = .ok (.iload_n 1, 1) := by decide +kernel
theorem dX6_blamed_41 : decode cX6_blamed 41 = .ok (.invokevirtual 201, 3) := by decide +kernel
theorem dX6_blamed_44 : decode cX6_blamed 44 = .ok (.iconst 1, 1) := by decide +kernel
theorem dX6_blamed_45 : decode cX6_blamed 45 = .ok (.isub, 1) := by decide +kernel
theorem dX6_blamed_46 : decode cX6_blamed 46 = .ok (.istore_n 2, 1) := by decide +kernel
theorem dX6_blamed_47 : decode cX6_blamed 47 = .ok (.iload_n 2, 1) := by decide +kernel
theorem dX6_blamed_48 : decode cX6_blamed 48 = .ok (.ifCond .lt 38, 3) := by decide +kernel
theorem dX6_blamed_51 : decode cX6_blamed 51 = .ok (.aload_n 0, 1) := by decide +kernel
theorem dX6_blamed_52 : decode cX6_blamed 52 = .ok (.getfield 39, 3) := by decide +kernel
theorem dX6_blamed_55 : decode cX6_blamed 55 = .ok (.iload_n 2, 1) := by decide +kernel
theorem dX6_blamed_56 : decode cX6_blamed 56 = .ok (.iaload, 1) := by decide +kernel
theorem dX6_blamed_57 : decode cX6_blamed 57 = .ok (.istore_n 3, 1) := by decide +kernel
theorem dX6_blamed_58 : decode cX6_blamed 58 = .ok (.aload_n 0, 1) := by decide +kernel
theorem dX6_blamed_59 : decode cX6_blamed 59 = .ok (.iload_n 3, 1) := by decide +kernel
theorem dX6_blamed_60 : decode cX6_blamed 60 = .ok (.invokevirtual 195, 3) := by decide +kernel
theorem dX6_blamed_63 : decode cX6_blamed 63 = .ok (.aload_n 0, 1) := by decide +kernel
theorem dX6_blamed_64 : decode cX6_blamed 64 = .ok (.getfield 42, 3) := by decide +kernel
theorem dX6_blamed_67 : decode cX6_blamed 67 = .ok (.iload_n 1, 1) := by decide +kernel
theorem dX6_blamed_68 : decode cX6_blamed 68 = .ok (.iaload, 1) := by decide +kernel
theorem dX6_blamed_69 : decode cX6_blamed 69 = .ok (.aload_n 0, 1) := by decide +kernel
theorem dX6_blamed_70 : decode cX6_blamed 70 = .ok (.iload_n 1, 1) := by decide +kernel
theorem dX6_blamed_71 : decode cX6_blamed 71 = .ok (.iconst 1, 1) := by decide +kernel
theorem dX6_blamed_72 : decode cX6_blamed 72 = .ok (.invokevirtual 92, 3) := by decide +kernel
theorem dX6_blamed_75 : decode cX6_blamed 75 = .ok (.if_icmp .ne 5, 3) := by decide +kernel
theorem dX6_blamed_78 : decode cX6_blamed 78 = .ok (.iload_n 3, 1) := by decide +kernel
theorem dX6_blamed_79 : decode cX6_blamed 79 = .ok (.ireturn, 1) := by decide +kernel
theorem dX6_blamed_80 : decode cX6_blamed 80 = .ok (.iinc 2 (-1), 3) := by decide +kernel
theorem dX6_blamed_83 : decode cX6_blamed 83 = .ok (.goto (-36), 3) := by decide +kernel
theorem dX6_blamed_86 : decode cX6_blamed 86 = .ok (.aload_n 0, 1) := by decide +kernel
theorem dX6_blamed_87 : decode cX6_blamed 87 = .ok (.iconst 2, 1) := by decide +kernel
theorem dX6_blamed_88 : decode cX6_blamed 88 = .ok (.invokevirtual 99, 3) := by decide +kernel
theorem dX6_blamed_91 : decode cX6_blamed 91 = .ok (.ireturn, 1) := by decide +kernel
theorem dX6_linesIf_0 : decode cX6_linesIf 0 = .ok (.aload_n 0, 1) := by decide +kernel
theorem dX6_linesIf_1 : decode cX6_linesIf 1 = .ok (.iconst 0, 1) := by decide +kernel
theorem dX6_linesIf_2 : decode cX6_linesIf 2 = .ok (.putfield 3, 3) := by decide +kernel
theorem dX6_linesIf_5 : decode cX6_linesIf 5 = .ok (.aload_n 0, 1) := by decide +kernel
theorem dX6_linesIf_6 : decode cX6_linesIf 6 = .ok (.iload_n 1, 1) := by decide +kernel
theorem dX6_linesIf_7 : decode cX6_linesIf 7 = .ok (.invokevirtual 111, 3) := by decide +kernel
theorem dX6_linesIf_10 : decode cX6_linesIf 10 = .ok (.ifCond .ne 9, 3) := by decide +kernel
theorem dX6_linesIf_13 : decode cX6_linesIf 13 = .ok (.aload_n 0, 1) := by decide +kernel
theorem dX6_linesIf_14 : decode cX6_linesIf 14 = .ok (.iconst 1, 1) := by decide +kernel
theorem dX6_linesIf_15 : decode cX6_linesIf 15 = .ok (.invokevirtual 99, 3) := by decide +kernel
theorem dX6_linesIf_18 : decode cX6_linesIf 18 = .ok (.ireturn, 1) := by decide +kernel
theorem dX6_linesIf_19 : decode cX6_linesIf 19 = .ok (.aload_n 0, 1) := by decide +kernel
theorem dX6_linesIf_20 : decode cX6_linesIf 20 = .ok (.iload_n 1, 1) := by decide +kernel
theorem dX6_linesIf_21 : decode cX6_linesIf 21 = .ok (.iload_n 2, 1) := by decide +kernel
theorem dX6_linesIf_22 : decode cX6_linesIf 22 = .ok (.ifCond .eq 7, 3) := by decide +kernel
theorem dX6_linesIf_25 : decode cX6_linesIf 25 = .ok (.iconst 1, 1) := by decide +kernel
theorem dX6_linesIf_26 : decode cX6_linesIf 26 = .ok (.goto 4, 3) := by decide +kernel
theorem dX6_linesIf_29 : decode cX6_linesIf 29 = .ok (.iconst 0, 1) := by decide +kernel
theorem dX6_linesIf_30 : decode cX6_linesIf 30 = .ok (.invokevirtual 138, 3) := by decide +kernel
theorem dX6_linesIf_33 : decode cX6_linesIf 33 = .ok (.istore_n 3, 1) := by decide +kernel
theorem dX6_linesIf_34 : decode cX6_linesIf 34 = .ok (.aload_n 0, 1) := by decide +kernel
theorem dX6_linesIf_35 : decode cX6_linesIf 35 = .ok (.iconst (-1), 1) := by decide +kernel
theorem dX6_linesIf_36 : decode cX6_linesIf 36 = .ok (.invokevirtual 195, 3) := by decide +kernel
theorem dX6_linesIf_39 : decode cX6_linesIf 39 = .ok (.aload_n 0, 1) := by decide +kernel
theorem dX6_linesIf_40 : decode cX6_linesIf 40 = .ok (.iload_n 1, 1) := by decide +kernel
theorem dX6_linesIf_41 : decode cX6_linesIf 41 = .ok (.invokevirtual 204, 3) := by decide +kernel
theorem dX6_linesIf_44 : decode cX6_linesIf 44 = .ok (.istore 4, 2) := by decide +kernel
theorem dX6_linesIf_46 : decode cX6_linesIf 46 = .ok (.aload_n 0, 1) := by decide +kernel
theorem dX6_linesIf_47 : decode cX6_linesIf 47 = .ok (.iload_n 1, 1) := by decide +kernel
theorem dX6_linesIf_48 : decode cX6_linesIf 48 = .ok (.iload_n 3, 1) := by decide +kernel
theorem dX6_linesIf_49 : decode cX6_linesIf 49 = .ok (.invokevirtual 138, 3) := by decide +kernel
theorem dX6_linesIf_52 : decode cX6_linesIf 52 = .ok (.istore 5, 2) := by decide +kernel
theorem dX6_linesIf_54 : decode cX6_linesIf 54 = .ok (.iload 4, 2) := by decide +kernel
theorem dX6_linesIf_56 : decode cX6_linesIf 56 = .ok (.ireturn, 1) := by decide +kernel
theorem dX6_trim_0 : decode cX6_trim 0 = .ok (.aload_n 0, 1) := by decide +kernel
theorem dX6_trim_1 : decode cX6_trim 1 = .ok (.invokevirtual 198, 3) := by decide +kernel
theorem dX6_trim_4 : decode cX6_trim 4 = .ok (.aload_n 0, 1) := by decide +kernel
theorem dX6_trim_5 : decode cX6_trim 5 = .ok (.iload_n 1, 1) := by decide +kernel
theorem dX6_trim_6 : decode cX6_trim 6 = .ok (.invokevirtual 111, 3) := by decide +kernel
theorem dX6_trim_9 : decode cX6_trim 9 = .ok (.ifCond .ne 9, 3) := by decide +kernel
theorem dX6_trim_12 : decode cX6_trim 12 = .ok (.aload_n 0, 1) := by decide +kernel
theorem dX6_trim_13 : decode cX6_trim 13 = .ok (.iconst 1, 1) := by decide +kernel
theorem dX6_trim_14 : decode cX6_trim 14 = .ok (.invokevirtual 99, 3) := by decide +kernel
theorem dX6_trim_17 : decode cX6_trim 17 = .ok (.ireturn, 1) := by decide +kernel
theorem dX6_trim_18 : decode cX6_trim 18 = .ok (.aload_n 0, 1) := by decide +kernel
theorem dX6_trim_19 : decode cX6_trim 19 = .ok (.getfield 42, 3) := by decide +kernel
theorem dX6_trim_22 : decode cX6_trim 22 = .ok (.iload_n 1, 1) := by decide +kernel
theorem dX6_trim_23 : decode cX6_trim 23 = .ok (.iaload, 1) := by decide +kernel
theorem dX6_trim_24 : decode cX6_trim 24 = .ok (.ifCond .ge 11, 3) := by decide +kernel
theorem dX6_trim_27 : decode cX6_trim 27 = .ok (.aload_n 0, 1) := by decide +kernel
theorem dX6_trim_28 : decode cX6_trim 28 = .ok (.iconst 2, 1) := by decide +kernel
theorem dX6_trim_29 : decode cX6_trim 29 = .ok (.invokevirtual 99, 3) := by decide +kernel
theorem dX6_trim_32 : decode cX6_trim 32 = .ok (.goto 27, 3) := by decide +kernel
theorem dX6_trim_35 : decode cX6_trim 35 = .ok (.iconst 0, 1) := by decide +kernel
theorem dX6_trim_36 : decode cX6_trim 36 = .ok (.aload_n 0, 1) := by decide +kernel
theorem dX6_trim_37 : decode cX6_trim 37 = .ok (.iload_n 1, 1) := by decide +kernel
theorem dX6_trim_38 : decode cX6_trim 38 = .ok (.iconst 4, 1) := by decide +kernel
theorem dX6_trim_39 : decode cX6_trim 39 = .ok (.invokevirtual 92, 3) := by decide +kernel
theorem dX6_trim_42 : decode cX6_trim 42 = .ok (.aload_n 0, 1) := by decide +kernel
theorem dX6_trim_43 : decode cX6_trim 43 = .ok (.iload_n 1, 1) := by decide +kernel
theorem dX6_trim_44 : decode cX6_trim 44 = .ok (.iconst 2, 1) := by decide +kernel
theorem dX6_trim_45 : decode cX6_trim 45 = .ok (.invokevirtual 92, 3) := by decide +kernel
theorem dX6_trim_48 : decode cX6_trim 48 = .ok (.aload_n 0, 1) := by decide +kernel
theorem dX6_trim_49 : decode cX6_trim 49 = .ok (.getfield 51, 3) := by decide +kernel
theorem dX6_trim_52 : decode cX6_trim 52 = .ok (.iload_n 1, 1) := by decide +kernel
theorem dX6_trim_53 : decode cX6_trim 53 = .ok (.iaload, 1) := by decide +kernel
theorem dX6_trim_54 : decode cX6_trim 54 = .ok (.imul, 1) := by decide +kernel
theorem dX6_trim_55 : decode cX6_trim 55 = .ok (.isub, 1) := by decide +kernel
theorem dX6_trim_56 : decode cX6_trim 56 = .ok (.invokestatic 213, 3) := by decide +kernel
theorem dX6_trim_59 : decode cX6_trim 59 = .ok (.ireturn, 1) := by decide +kernel
theorem dX6_count_0 : decode cX6_count 0 = .ok (.aload_n 0, 1) := by decide +kernel
theorem dX6_count_1 : decode cX6_count 1 = .ok (.invokevirtual 198, 3) := by decide +kernel
theorem dX6_count_4 : decode cX6_count 4 = .ok (.iload_n 1, 1) := by decide +kernel
theorem dX6_count_5 : decode cX6_count 5 = .ok (.iconst 0, 1) := by decide +kernel
theorem dX6_count_6 : decode cX6_count 6 = .ok (.bipush 7, 2) := by decide +kernel
theorem dX6_count_8 : decode cX6_count 8 = .ok (.invokestatic 88, 3) := by decide +kernel
theorem dX6_count_11 : decode cX6_count 11 = .ok (.ifCond .ne 9, 3) := by decide +kernel
theorem dX6_count_14 : decode cX6_count 14 = .ok (.aload_n 0, 1) := by decide +kernel
theorem dX6_count_15 : decode cX6_count 15 = .ok (.iconst 1, 1) := by decide +kernel
theorem dX6_count_16 : decode cX6_count 16 = .ok (.invokevirtual 99, 3) := by decide +kernel
theorem dX6_count_19 : decode cX6_count 19 = .ok (.ireturn, 1) := by decide +kernel
theorem dX6_count_20 : decode cX6_count 20 = .ok (.iload_n 1, 1) := by decide +kernel
theorem dX6_count_21 : decode cX6_count 21 = .ok (.iconst 2, 1) := by decide +kernel
theorem dX6_count_22 : decode cX6_count 22 = .ok (.if_icmp .ge 17, 3) := by decide +kernel
theorem dX6_count_25 : decode cX6_count 25 = .ok (.aload_n 0, 1) := by decide +kernel
theorem dX6_count_26 : decode cX6_count 26 = .ok (.iload_n 1, 1) := by decide +kernel
theorem dX6_count_27 : decode cX6_count 27 = .ok (.ifCond .ne 7, 3) := by decide +kernel
theorem dX6_count_30 : decode cX6_count 30 = .ok (.iconst 1, 1) := by decide +kernel
theorem dX6_count_31 : decode cX6_count 31 = .ok (.goto 4, 3) := by decide +kernel
theorem dX6_count_34 : decode cX6_count 34 = .ok (.iconst 0, 1) := by decide +kernel
theorem dX6_count_35 : decode cX6_count 35 = .ok (.invokevirtual 144, 3) := by decide +kernel
theorem dX6_count_38 : decode cX6_count 38 = .ok (.ireturn, 1) := by decide +kernel
theorem dX6_count_39 : decode cX6_count 39 = .ok (.iconst 0, 1) := by decide +kernel
theorem dX6_count_40 : decode cX6_count 40 = .ok (.istore_n 2, 1) := by decide +kernel
theorem dX6_count_41 : decode cX6_count 41 = .ok (.iconst 0, 1) := by decide +kernel
theorem dX6_count_42 : decode cX6_count 42 = .ok (.istore_n 3, 1) := by decide +kernel
theorem dX6_count_43 : decode cX6_count 43 = .ok (.iload_n 3, 1) := by decide +kernel
theorem dX6_count_44 : decode cX6_count 44 = .ok (.bipush 8, 2) := by decide +kernel
theorem dX6_count_46 : decode cX6_count 46 = .ok (.if_icmp .ge 46, 3) := by decide +kernel
theorem dX6_count_49 : decode cX6_count 49 = .ok (.iload_n 1, 1) := by decide +kernel
theorem dX6_count_50 : decode cX6_count 50 = .ok (.bipush 7, 2) := by decide +kernel
theorem dX6_count_52 : decode cX6_count 52 = .ok (.if_icmp .ne 40, 3) := by decide +kernel
theorem dX6_count_55 : decode cX6_count 55 = .ok (.iload_n 2, 1) := by decide +kernel
theorem dX6_count_56 : decode cX6_count 56 = .ok (.aload_n 0, 1) := by decide +kernel
theorem dX6_count_57 : decode cX6_count 57 = .ok (.iload_n 3, 1) := by decide +kernel
theorem dX6_count_58 : decode cX6_count 58 = .ok (.iconst 0, 1) := by decide +kernel
theorem dX6_count_59 : decode cX6_count 59 = .ok (.invokevirtual 96, 3) := by decide +kernel
theorem dX6_count_62 : decode cX6_count 62 = .ok (.aload_n 0, 1) := by decide +kernel
theorem dX6_count_63 : decode cX6_count 63 = .ok (.iload_n 3, 1) := by decide +kernel
theorem dX6_count_64 : decode cX6_count 64 = .ok (.bipush 6, 2) := by decide +kernel
theorem dX6_count_66 : decode cX6_count 66 = .ok (.invokevirtual 96, 3) := by decide +kernel
theorem dX6_count_69 : decode cX6_count 69 = .ok (.imul, 1) := by decide +kernel
theorem dX6_count_70 : decode cX6_count 70 = .ok (.aload_n 0, 1) := by decide +kernel
theorem dX6_count_71 : decode cX6_count 71 = .ok (.iload_n 3, 1) := by decide +kernel
theorem dX6_count_72 : decode cX6_count 72 = .ok (.iconst 4, 1) := by decide +kernel
theorem dX6_count_73 : decode cX6_count 73 = .ok (.invokevirtual 96, 3) := by decide +kernel
theorem dX6_count_76 : decode cX6_count 76 = .ok (.imul, 1) := by decide +kernel
theorem dX6_count_77 : decode cX6_count 77 = .ok (.aload_n 0, 1) := by decide +kernel
theorem dX6_count_78 : decode cX6_count 78 = .ok (.iload_n 3, 1) := by decide +kernel
theorem dX6_count_79 : decode cX6_count 79 = .ok (.iconst 5, 1) := by decide +kernel
theorem dX6_count_80 : decode cX6_count 80 = .ok (.invokevirtual 96, 3) := by decide +kernel
theorem dX6_count_83 : decode cX6_count 83 = .ok (.imul, 1) := by decide +kernel
theorem dX6_count_84 : decode cX6_count 84 = .ok (.iadd, 1) := by decide +kernel
theorem dX6_count_85 : decode cX6_count 85 = .ok (.istore_n 2, 1) := by decide +kernel
theorem dX6_count_86 : decode cX6_count 86 = .ok (.iinc 3 1, 3) := by decide +kernel
theorem dX6_count_89 : decode cX6_count 89 = .ok (.goto (-46), 3) := by decide +kernel
theorem dX6_count_92 : decode cX6_count 92 = .ok (.iconst 0, 1) := by decide +kernel
theorem dX6_count_93 : decode cX6_count 93 = .ok (.istore_n 3, 1) := by decide +kernel
theorem dX6_count_94 : decode cX6_count 94 = .ok (.iload_n 3, 1) := by decide +kernel
theorem dX6_count_95 : decode cX6_count 95 = .ok (.aload_n 0, 1) := by decide +kernel
theorem dX6_count_96 : decode cX6_count 96 = .ok (.getfield 54, 3) := by decide +kernel
theorem dX6_count_99 : decode cX6_count 99 = .ok (.if_icmp .ge 161, 3) := by decide +kernel
theorem dX6_count_102 : decode cX6_count 102 = .ok (.aload_n 0, 1) := by decide +kernel
theorem dX6_count_103 : decode cX6_count 103 = .ok (.getfield 39, 3) := by decide +kernel
theorem dX6_count_106 : decode cX6_count 106 = .ok (.iload_n 3, 1) := by decide +kernel
theorem dX6_count_107 : decode cX6_count 107 = .ok (.iaload, 1) := by decide +kernel
theorem dX6_count_108 : decode cX6_count 108 = .ok (.istore 4, 2) := by decide +kernel
theorem dX6_count_110 : decode cX6_count 110 = .ok (.iconst 0, 1) := by decide +kernel
theorem dX6_count_111 : decode cX6_count 111 = .ok (.istore 5, 2) := by decide +kernel
theorem dX6_count_113 : decode cX6_count 113 = .ok (.iconst 0, 1) := by decide +kernel
theorem dX6_count_114 : decode cX6_count 114 = .ok (.istore 6, 2) := by decide +kernel
theorem dX6_count_116 : decode cX6_count 116 = .ok (.iload 6, 2) := by decide +kernel
theorem dX6_count_118 : decode cX6_count 118 = .ok (.aload_n 0, 1) := by decide +kernel
theorem dX6_count_119 : decode cX6_count 119 = .ok (.getfield 45, 3) := by decide +kernel
theorem dX6_count_122 : decode cX6_count 122 = .ok (.iload 4, 2) := by decide +kernel
theorem dX6_count_124 : decode cX6_count 124 = .ok (.iaload, 1) := by decide +kernel
theorem dX6_count_125 : decode cX6_count 125 = .ok (.if_icmp .ge 32, 3) := by decide +kernel
theorem dX6_count_128 : decode cX6_count 128 = .ok (.iload 5, 2) := by decide +kernel
theorem dX6_count_130 : decode cX6_count 130 = .ok (.aload_n 0, 1) := by decide +kernel
theorem dX6_count_131 : decode cX6_count 131 = .ok (.getfield 48, 3) := by decide +kernel
theorem dX6_count_134 : decode cX6_count 134 = .ok (.bipush 8, 2) := by decide +kernel
theorem dX6_count_136 : decode cX6_count 136 = .ok (.iconst 4, 1) := by decide +kernel
theorem dX6_count_137 : decode cX6_count 137 = .ok (.iload 4, 2) := by decide +kernel
theorem dX6_count_139 : decode cX6_count 139 = .ok (.imul, 1) := by decide +kernel
theorem dX6_count_140 : decode cX6_count 140 = .ok (.iload 6, 2) := by decide +kernel
theorem dX6_count_142 : decode cX6_count 142 = .ok (.iadd, 1) := by decide +kernel
theorem dX6_count_143 : decode cX6_count 143 = .ok (.imul, 1) := by decide +kernel
theorem dX6_count_144 : decode cX6_count 144 = .ok (.bipush 7, 2) := by decide +kernel
theorem dX6_count_146 : decode cX6_count 146 = .ok (.iadd, 1) := by decide +kernel
theorem dX6_count_147 : decode cX6_count 147 = .ok (.iaload, 1) := by decide +kernel
theorem dX6_count_148 : decode cX6_count 148 = .ok (.iadd, 1) := by decide +kernel
theorem dX6_count_149 : decode cX6_count 149 = .ok (.istore 5, 2) := by decide +kernel
theorem dX6_count_151 : decode cX6_count 151 = .ok (.iinc 6 1, 3) := by decide +kernel
theorem dX6_count_154 : decode cX6_count 154 = .ok (.goto (-38), 3) := by decide +kernel
theorem dX6_count_157 : decode cX6_count 157 = .ok (.iload_n 2, 1) := by decide +kernel
theorem dX6_count_158 : decode cX6_count 158 = .ok (.iload_n 1, 1) := by decide +kernel
theorem dX6_count_159 : decode cX6_count 159 = .ok (.iconst 2, 1) := by decide +kernel
theorem dX6_count_160 : decode cX6_count 160 = .ok (.if_icmp .ne 21, 3) := by decide +kernel
theorem dX6_count_163 : decode cX6_count 163 = .ok (.aload_n 0, 1) := by decide +kernel
theorem dX6_count_164 : decode cX6_count 164 = .ok (.iload 4, 2) := by decide +kernel
theorem dX6_count_166 : decode cX6_count 166 = .ok (.invokevirtual 210, 3) := by decide +kernel
theorem dX6_count_169 : decode cX6_count 169 = .ok (.iconst 3, 1) := by decide +kernel
theorem dX6_count_170 : decode cX6_count 170 = .ok (.if_icmp .ne 7, 3) := by decide +kernel
theorem dX6_count_173 : decode cX6_count 173 = .ok (.iconst 1, 1) := by decide +kernel
theorem dX6_count_174 : decode cX6_count 174 = .ok (.goto 78, 3) := by decide +kernel
theorem dX6_count_177 : decode cX6_count 177 = .ok (.iconst 0, 1) := by decide +kernel
theorem dX6_count_178 : decode cX6_count 178 = .ok (.goto 74, 3) := by decide +kernel
theorem dX6_count_181 : decode cX6_count 181 = .ok (.iload_n 1, 1) := by decide +kernel
theorem dX6_count_182 : decode cX6_count 182 = .ok (.iconst 3, 1) := by decide +kernel
theorem dX6_count_183 : decode cX6_count 183 = .ok (.if_icmp .ne 21, 3) := by decide +kernel
theorem dX6_count_186 : decode cX6_count 186 = .ok (.aload_n 0, 1) := by decide +kernel
theorem dX6_count_187 : decode cX6_count 187 = .ok (.iload 4, 2) := by decide +kernel
theorem dX6_count_189 : decode cX6_count 189 = .ok (.invokevirtual 210, 3) := by decide +kernel
theorem dX6_count_192 : decode cX6_count 192 = .ok (.iconst 2, 1) := by decide +kernel
theorem dX6_count_193 : decode cX6_count 193 = .ok (.if_icmp .ne 7, 3) := by decide +kernel
theorem dX6_count_196 : decode cX6_count 196 = .ok (.iconst 1, 1) := by decide +kernel
theorem dX6_count_197 : decode cX6_count 197 = .ok (.goto 55, 3) := by decide +kernel
theorem dX6_count_200 : decode cX6_count 200 = .ok (.iconst 0, 1) := by decide +kernel
theorem dX6_count_201 : decode cX6_count 201 = .ok (.goto 51, 3) := by decide +kernel
theorem dX6_count_204 : decode cX6_count 204 = .ok (.iload_n 1, 1) := by decide +kernel
theorem dX6_count_205 : decode cX6_count 205 = .ok (.iconst 4, 1) := by decide +kernel
theorem dX6_count_206 : decode cX6_count 206 = .ok (.if_icmp .ne 8, 3) := by decide +kernel
theorem dX6_count_209 : decode cX6_count 209 = .ok (.iload 5, 2) := by decide +kernel
theorem dX6_count_211 : decode cX6_count 211 = .ok (.goto 41, 3) := by decide +kernel
theorem dX6_count_214 : decode cX6_count 214 = .ok (.iload_n 1, 1) := by decide +kernel
theorem dX6_count_215 : decode cX6_count 215 = .ok (.iconst 5, 1) := by decide +kernel
theorem dX6_count_216 : decode cX6_count 216 = .ok (.if_icmp .ne 12, 3) := by decide +kernel
theorem dX6_count_219 : decode cX6_count 219 = .ok (.aload_n 0, 1) := by decide +kernel
theorem dX6_count_220 : decode cX6_count 220 = .ok (.iload 4, 2) := by decide +kernel
theorem dX6_count_222 : decode cX6_count 222 = .ok (.invokevirtual 204, 3) := by decide +kernel
theorem dX6_count_225 : decode cX6_count 225 = .ok (.goto 27, 3) := by decide +kernel
theorem dX6_count_228 : decode cX6_count 228 = .ok (.iload_n 1, 1) := by decide +kernel
theorem dX6_count_229 : decode cX6_count 229 = .ok (.bipush 6, 2) := by decide +kernel
theorem dX6_count_231 : decode cX6_count 231 = .ok (.if_icmp .ne 20, 3) := by decide +kernel
theorem dX6_count_234 : decode cX6_count 234 = .ok (.aload_n 0, 1) := by decide +kernel
theorem dX6_count_235 : decode cX6_count 235 = .ok (.iload 4, 2) := by decide +kernel
theorem dX6_count_237 : decode cX6_count 237 = .ok (.iconst 4, 1) := by decide +kernel
theorem dX6_count_238 : decode cX6_count 238 = .ok (.invokevirtual 92, 3) := by decide +kernel
theorem dX6_count_241 : decode cX6_count 241 = .ok (.aload_n 0, 1) := by decide +kernel
theorem dX6_count_242 : decode cX6_count 242 = .ok (.iload 4, 2) := by decide +kernel
theorem dX6_count_244 : decode cX6_count 244 = .ok (.invokevirtual 204, 3) := by decide +kernel
theorem dX6_count_247 : decode cX6_count 247 = .ok (.isub, 1) := by decide +kernel
theorem dX6_count_248 : decode cX6_count 248 = .ok (.goto 4, 3) := by decide +kernel
theorem dX6_count_251 : decode cX6_count 251 = .ok (.iconst 0, 1) := by decide +kernel
theorem dX6_count_252 : decode cX6_count 252 = .ok (.iadd, 1) := by decide +kernel
theorem dX6_count_253 : decode cX6_count 253 = .ok (.istore_n 2, 1) := by decide +kernel
theorem dX6_count_254 : decode cX6_count 254 = .ok (.iinc 3 1, 3) := by decide +kernel
theorem dX6_count_257 : decode cX6_count 257 = .ok (.goto (-163), 3) := by decide +kernel
theorem dX6_count_260 : decode cX6_count 260 = .ok (.iload_n 2, 1) := by decide +kernel
theorem dX6_count_261 : decode cX6_count 261 = .ok (.ireturn, 1) := by decide +kernel
theorem dX6_cellCount_0 : decode cX6_cellCount 0 = .ok (.aload_n 0, 1) := by decide +kernel
theorem dX6_cellCount_1 : decode cX6_cellCount 1 = .ok (.invokevirtual 198, 3) := by decide +kernel
theorem dX6_cellCount_4 : decode cX6_cellCount 4 = .ok (.iload_n 1, 1) := by decide +kernel
theorem dX6_cellCount_5 : decode cX6_cellCount 5 = .ok (.iconst 0, 1) := by decide +kernel
theorem dX6_cellCount_6 : decode cX6_cellCount 6 = .ok (.iconst 3, 1) := by decide +kernel
theorem dX6_cellCount_7 : decode cX6_cellCount 7 = .ok (.invokestatic 88, 3) := by decide +kernel
theorem dX6_cellCount_10 : decode cX6_cellCount 10 = .ok (.ifCond .ne 9, 3) := by decide +kernel
theorem dX6_cellCount_13 : decode cX6_cellCount 13 = .ok (.aload_n 0, 1) := by decide +kernel
theorem dX6_cellCount_14 : decode cX6_cellCount 14 = .ok (.iconst 1, 1) := by decide +kernel
theorem dX6_cellCount_15 : decode cX6_cellCount 15 = .ok (.invokevirtual 99, 3) := by decide +kernel
theorem dX6_cellCount_18 : decode cX6_cellCount 18 = .ok (.ireturn, 1) := by decide +kernel
theorem dX6_cellCount_19 : decode cX6_cellCount 19 = .ok (.iload_n 2, 1) := by decide +kernel
theorem dX6_cellCount_20 : decode cX6_cellCount 20 = .ok (.iconst 0, 1) := by decide +kernel
theorem dX6_cellCount_21 : decode cX6_cellCount 21 = .ok (.bipush 8, 2) := by decide +kernel
theorem dX6_cellCount_23 : decode cX6_cellCount 23 = .ok (.invokestatic 88, 3) := by decide +kernel
theorem dX6_cellCount_26 : decode cX6_cellCount 26 = .ok (.ifCond .ne 9, 3) := by decide +kernel
theorem dX6_cellCount_29 : decode cX6_cellCount 29 = .ok (.aload_n 0, 1) := by decide +kernel
theorem dX6_cellCount_30 : decode cX6_cellCount 30 = .ok (.iconst 2, 1) := by decide +kernel
theorem dX6_cellCount_31 : decode cX6_cellCount 31 = .ok (.invokevirtual 99, 3) := by decide +kernel
theorem dX6_cellCount_34 : decode cX6_cellCount 34 = .ok (.ireturn, 1) := by decide +kernel
theorem dX6_cellCount_35 : decode cX6_cellCount 35 = .ok (.iconst 0, 1) := by decide +kernel
theorem dX6_cellCount_36 : decode cX6_cellCount 36 = .ok (.istore_n 3, 1) := by decide +kernel
theorem dX6_cellCount_37 : decode cX6_cellCount 37 = .ok (.iconst 0, 1) := by decide +kernel
theorem dX6_cellCount_38 : decode cX6_cellCount 38 = .ok (.istore 4, 2) := by decide +kernel
theorem dX6_cellCount_40 : decode cX6_cellCount 40 = .ok (.iload 4, 2) := by decide +kernel
theorem dX6_cellCount_42 : decode cX6_cellCount 42 = .ok (.bipush 120, 2) := by decide +kernel
theorem dX6_cellCount_44 : decode cX6_cellCount 44 = .ok (.if_icmp .ge 33, 3) := by decide +kernel
theorem dX6_cellCount_47 : decode cX6_cellCount 47 = .ok (.iload_n 3, 1) := by decide +kernel
theorem dX6_cellCount_48 : decode cX6_cellCount 48 = .ok (.aload_n 0, 1) := by decide +kernel
theorem dX6_cellCount_49 : decode cX6_cellCount 49 = .ok (.getfield 33, 3) := by decide +kernel
theorem dX6_cellCount_52 : decode cX6_cellCount 52 = .ok (.bipush 120, 2) := by decide +kernel
theorem dX6_cellCount_54 : decode cX6_cellCount 54 = .ok (.iload_n 1, 1) := by decide +kernel
theorem dX6_cellCount_55 : decode cX6_cellCount 55 = .ok (.imul, 1) := by decide +kernel
theorem dX6_cellCount_56 : decode cX6_cellCount 56 = .ok (.iload 4, 2) := by decide +kernel
theorem dX6_cellCount_58 : decode cX6_cellCount 58 = .ok (.iadd, 1) := by decide +kernel
theorem dX6_cellCount_59 : decode cX6_cellCount 59 = .ok (.iaload, 1) := by decide +kernel
theorem dX6_cellCount_60 : decode cX6_cellCount 60 = .ok (.iload_n 2, 1) := by decide +kernel
theorem dX6_cellCount_61 : decode cX6_cellCount 61 = .ok (.if_icmp .ne 7, 3) := by decide +kernel
theorem dX6_cellCount_64 : decode cX6_cellCount 64 = .ok (.iconst 1, 1) := by decide +kernel
theorem dX6_cellCount_65 : decode cX6_cellCount 65 = .ok (.goto 4, 3) := by decide +kernel
theorem dX6_cellCount_68 : decode cX6_cellCount 68 = .ok (.iconst 0, 1) := by decide +kernel
theorem dX6_cellCount_69 : decode cX6_cellCount 69 = .ok (.iadd, 1) := by decide +kernel
theorem dX6_cellCount_70 : decode cX6_cellCount 70 = .ok (.istore_n 3, 1) := by decide +kernel
theorem dX6_cellCount_71 : decode cX6_cellCount 71 = .ok (.iinc 4 1, 3) := by decide +kernel
theorem dX6_cellCount_74 : decode cX6_cellCount 74 = .ok (.goto (-34), 3) := by decide +kernel
theorem dX6_cellCount_77 : decode cX6_cellCount 77 = .ok (.iload_n 3, 1) := by decide +kernel
theorem dX6_cellCount_78 : decode cX6_cellCount 78 = .ok (.ireturn, 1) := by decide +kernel
theorem dX6_filledIn_0 : decode cX6_filledIn 0 = .ok (.iconst 0, 1) := by decide +kernel
theorem dX6_filledIn_1 : decode cX6_filledIn 1 = .ok (.istore_n 3, 1) := by decide +kernel
theorem dX6_filledIn_2 : decode cX6_filledIn 2 = .ok (.iconst 0, 1) := by decide +kernel
theorem dX6_filledIn_3 : decode cX6_filledIn 3 = .ok (.istore 4, 2) := by decide +kernel
theorem dX6_filledIn_5 : decode cX6_filledIn 5 = .ok (.iload 4, 2) := by decide +kernel
theorem dX6_filledIn_7 : decode cX6_filledIn 7 = .ok (.bipush 24, 2) := by decide +kernel
theorem dX6_filledIn_9 : decode cX6_filledIn 9 = .ok (.if_icmp .ge 43, 3) := by decide +kernel
theorem dX6_filledIn_12 : decode cX6_filledIn 12 = .ok (.aload_n 0, 1) := by decide +kernel
theorem dX6_filledIn_13 : decode cX6_filledIn 13 = .ok (.getfield 33, 3) := by decide +kernel
theorem dX6_filledIn_16 : decode cX6_filledIn 16 = .ok (.iload_n 1, 1) := by decide +kernel
theorem dX6_filledIn_17 : decode cX6_filledIn 17 = .ok (.iload_n 2, 1) := by decide +kernel
theorem dX6_filledIn_18 : decode cX6_filledIn 18 = .ok (.iload 4, 2) := by decide +kernel
theorem dX6_filledIn_20 : decode cX6_filledIn 20 = .ok (.invokestatic 151, 3) := by decide +kernel
theorem dX6_filledIn_23 : decode cX6_filledIn 23 = .ok (.iaload, 1) := by decide +kernel
theorem dX6_filledIn_24 : decode cX6_filledIn 24 = .ok (.istore 5, 2) := by decide +kernel
theorem dX6_filledIn_26 : decode cX6_filledIn 26 = .ok (.iload_n 3, 1) := by decide +kernel
theorem dX6_filledIn_27 : decode cX6_filledIn 27 = .ok (.iload 5, 2) := by decide +kernel
theorem dX6_filledIn_29 : decode cX6_filledIn 29 = .ok (.ifCond .eq 14, 3) := by decide +kernel
theorem dX6_filledIn_32 : decode cX6_filledIn 32 = .ok (.iload 5, 2) := by decide +kernel
theorem dX6_filledIn_34 : decode cX6_filledIn 34 = .ok (.bipush 8, 2) := by decide +kernel
theorem dX6_filledIn_36 : decode cX6_filledIn 36 = .ok (.if_icmp .eq 7, 3) := by decide +kernel
theorem dX6_filledIn_39 : decode cX6_filledIn 39 = .ok (.iconst 1, 1) := by decide +kernel
theorem dX6_filledIn_40 : decode cX6_filledIn 40 = .ok (.goto 4, 3) := by decide +kernel
theorem dX6_filledIn_43 : decode cX6_filledIn 43 = .ok (.iconst 0, 1) := by decide +kernel
theorem dX6_filledIn_44 : decode cX6_filledIn 44 = .ok (.iadd, 1) := by decide +kernel
theorem dX6_filledIn_45 : decode cX6_filledIn 45 = .ok (.istore_n 3, 1) := by decide +kernel
theorem dX6_filledIn_46 : decode cX6_filledIn 46 = .ok (.iinc 4 1, 3) := by decide +kernel
theorem dX6_filledIn_49 : decode cX6_filledIn 49 = .ok (.goto (-44), 3) := by decide +kernel
theorem dX6_filledIn_52 : decode cX6_filledIn 52 = .ok (.iload_n 3, 1) := by decide +kernel
theorem dX6_filledIn_53 : decode cX6_filledIn 53 = .ok (.ireturn, 1) := by decide +kernel
theorem dX6_fill_0 : decode cX6_fill 0 = .ok (.aload_n 0, 1) := by decide +kernel
theorem dX6_fill_1 : decode cX6_fill 1 = .ok (.invokevirtual 198, 3) := by decide +kernel
theorem dX6_fill_4 : decode cX6_fill 4 = .ok (.iload_n 1, 1) := by decide +kernel
theorem dX6_fill_5 : decode cX6_fill 5 = .ok (.iconst 0, 1) := by decide +kernel
theorem dX6_fill_6 : decode cX6_fill 6 = .ok (.iconst 3, 1) := by decide +kernel
theorem dX6_fill_7 : decode cX6_fill 7 = .ok (.invokestatic 88, 3) := by decide +kernel
theorem dX6_fill_10 : decode cX6_fill 10 = .ok (.ifCond .ne 10, 3) := by decide +kernel
theorem dX6_fill_13 : decode cX6_fill 13 = .ok (.aload_n 0, 1) := by decide +kernel
theorem dX6_fill_14 : decode cX6_fill 14 = .ok (.iconst 1, 1) := by decide +kernel
theorem dX6_fill_15 : decode cX6_fill 15 = .ok (.invokevirtual 99, 3) := by decide +kernel
theorem dX6_fill_18 : decode cX6_fill 18 = .ok (.i2f, 1) := by decide +kernel
theorem dX6_fill_19 : decode cX6_fill 19 = .ok (.freturn, 1) := by decide +kernel
theorem dX6_fill_20 : decode cX6_fill 20 = .ok (.iconst 0, 1) := by decide +kernel
theorem dX6_fill_21 : decode cX6_fill 21 = .ok (.istore_n 2, 1) := by decide +kernel
theorem dX6_fill_22 : decode cX6_fill 22 = .ok (.iconst 0, 1) := by decide +kernel
theorem dX6_fill_23 : decode cX6_fill 23 = .ok (.istore_n 3, 1) := by decide +kernel
theorem dX6_fill_24 : decode cX6_fill 24 = .ok (.iload_n 3, 1) := by decide +kernel
theorem dX6_fill_25 : decode cX6_fill 25 = .ok (.iconst 5, 1) := by decide +kernel
theorem dX6_fill_26 : decode cX6_fill 26 = .ok (.if_icmp .ge 18, 3) := by decide +kernel
theorem dX6_fill_29 : decode cX6_fill 29 = .ok (.iload_n 2, 1) := by decide +kernel
theorem dX6_fill_30 : decode cX6_fill 30 = .ok (.aload_n 0, 1) := by decide +kernel
theorem dX6_fill_31 : decode cX6_fill 31 = .ok (.iload_n 1, 1) := by decide +kernel
theorem dX6_fill_32 : decode cX6_fill 32 = .ok (.iload_n 3, 1) := by decide +kernel
theorem dX6_fill_33 : decode cX6_fill 33 = .ok (.invokevirtual 216, 3) := by decide +kernel
theorem dX6_fill_36 : decode cX6_fill 36 = .ok (.iadd, 1) := by decide +kernel
theorem dX6_fill_37 : decode cX6_fill 37 = .ok (.istore_n 2, 1) := by decide +kernel
theorem dX6_fill_38 : decode cX6_fill 38 = .ok (.iinc 3 1, 3) := by decide +kernel
theorem dX6_fill_41 : decode cX6_fill 41 = .ok (.goto (-17), 3) := by decide +kernel
theorem dX6_fill_44 : decode cX6_fill 44 = .ok (.iload_n 2, 1) := by decide +kernel
theorem dX6_fill_45 : decode cX6_fill 45 = .ok (.i2f, 1) := by decide +kernel
theorem dX6_fill_46 : decode cX6_fill 46 = .ok (.ldc 219, 2) := by decide +kernel
theorem dX6_fill_48 : decode cX6_fill 48 = .ok (.fdiv, 1) := by decide +kernel
theorem dX6_fill_49 : decode cX6_fill 49 = .ok (.freturn, 1) := by decide +kernel
theorem dX6_unevenness_0 : decode cX6_unevenness 0 = .ok (.aload_n 0, 1) := by decide +kernel
theorem dX6_unevenness_1 : decode cX6_unevenness 1 = .ok (.invokevirtual 198, 3) := by decide +kernel
theorem dX6_unevenness_4 : decode cX6_unevenness 4 = .ok (.iload_n 1, 1) := by decide +kernel
theorem dX6_unevenness_5 : decode cX6_unevenness 5 = .ok (.iconst 0, 1) := by decide +kernel
theorem dX6_unevenness_6 : decode cX6_unevenness 6 = .ok (.iconst 3, 1) := by decide +kernel
theorem dX6_unevenness_7 : decode cX6_unevenness 7 = .ok (.invokestatic 88, 3) := by decide +kernel
theorem dX6_unevenness_10 : decode cX6_unevenness 10 = .ok (.ifCond .ne 10, 3) := by decide +kernel
theorem dX6_unevenness_13 : decode cX6_unevenness 13 = .ok (.aload_n 0, 1) := by decide +kernel
theorem dX6_unevenness_14 : decode cX6_unevenness 14 = .ok (.iconst 1, 1) := by decide +kernel
theorem dX6_unevenness_15 : decode cX6_unevenness 15 = .ok (.invokevirtual 99, 3) := by decide +kernel
theorem dX6_unevenness_18 : decode cX6_unevenness 18 = .ok (.i2d, 1) := by decide +kernel
theorem dX6_unevenness_19 : decode cX6_unevenness 19 = .ok (.dreturn, 1) := by decide +kernel
theorem dX6_unevenness_20 : decode cX6_unevenness 20 = .ok (.fconst 0, 1) := by decide +kernel
theorem dX6_unevenness_21 : decode cX6_unevenness 21 = .ok (.fstore_n 2, 1) := by decide +kernel
theorem dX6_unevenness_22 : decode cX6_unevenness 22 = .ok (.iconst 0, 1) := by decide +kernel
theorem dX6_unevenness_23 : decode cX6_unevenness 23 = .ok (.istore_n 3, 1) := by decide +kernel
theorem dX6_unevenness_24 : decode cX6_unevenness 24 = .ok (.iload_n 3, 1) := by decide +kernel
theorem dX6_unevenness_25 : decode cX6_unevenness 25 = .ok (.iconst 5, 1) := by decide +kernel
theorem dX6_unevenness_26 : decode cX6_unevenness 26 = .ok (.if_icmp .ge 22, 3) := by decide +kernel
theorem dX6_unevenness_29 : decode cX6_unevenness 29 = .ok (.fload_n 2, 1) := by decide +kernel
theorem dX6_unevenness_30 : decode cX6_unevenness 30 = .ok (.aload_n 0, 1) := by decide +kernel
theorem dX6_unevenness_31 : decode cX6_unevenness 31 = .ok (.iload_n 1, 1) := by decide +kernel
theorem dX6_unevenness_32 : decode cX6_unevenness 32 = .ok (.iload_n 3, 1) := by decide +kernel
theorem dX6_unevenness_33 : decode cX6_unevenness 33 = .ok (.invokevirtual 216, 3) := by decide +kernel
theorem dX6_unevenness_36 : decode cX6_unevenness 36 = .ok (.i2f, 1) := by decide +kernel
theorem dX6_unevenness_37 : decode cX6_unevenness 37 = .ok (.ldc 220, 2) := by decide +kernel
theorem dX6_unevenness_39 : decode cX6_unevenness 39 = .ok (.fdiv, 1) := by decide +kernel
theorem dX6_unevenness_40 : decode cX6_unevenness 40 = .ok (.fadd, 1) := by decide +kernel
theorem dX6_unevenness_41 : decode cX6_unevenness 41 = .ok (.fstore_n 2, 1) := by decide +kernel
theorem dX6_unevenness_42 : decode cX6_unevenness 42 = .ok (.iinc 3 1, 3) := by decide +kernel
theorem dX6_unevenness_45 : decode cX6_unevenness 45 = .ok (.goto (-21), 3) := by decide +kernel
theorem dX6_unevenness_48 : decode cX6_unevenness 48 = .ok (.fload_n 2, 1) := by decide +kernel
theorem dX6_unevenness_49 : decode cX6_unevenness 49 = .ok (.ldc 221, 2) := by decide +kernel
theorem dX6_unevenness_51 : decode cX6_unevenness 51 = .ok (.fdiv, 1) := by decide +kernel
theorem dX6_unevenness_52 : decode cX6_unevenness 52 = .ok (.fstore_n 3, 1) := by decide +kernel
theorem dX6_unevenness_53 : decode cX6_unevenness 53 = .ok (.fconst 0, 1) := by decide +kernel
theorem dX6_unevenness_54 : decode cX6_unevenness 54 = .ok (.fstore 4, 2) := by decide +kernel
theorem dX6_unevenness_56 : decode cX6_unevenness 56 = .ok (.iconst 0, 1) := by decide +kernel
theorem dX6_unevenness_57 : decode cX6_unevenness 57 = .ok (.istore 5, 2) := by decide +kernel
theorem dX6_unevenness_59 : decode cX6_unevenness 59 = .ok (.iload 5, 2) := by decide +kernel
theorem dX6_unevenness_61 : decode cX6_unevenness 61 = .ok (.iconst 5, 1) := by decide +kernel
theorem dX6_unevenness_62 : decode cX6_unevenness 62 = .ok (.if_icmp .ge 34, 3) := by decide +kernel
theorem dX6_unevenness_65 : decode cX6_unevenness 65 = .ok (.aload_n 0, 1) := by decide +kernel
theorem dX6_unevenness_66 : decode cX6_unevenness 66 = .ok (.iload_n 1, 1) := by decide +kernel
theorem dX6_unevenness_67 : decode cX6_unevenness 67 = .ok (.iload 5, 2) := by decide +kernel
theorem dX6_unevenness_69 : decode cX6_unevenness 69 = .ok (.invokevirtual 216, 3) := by decide +kernel
theorem dX6_unevenness_72 : decode cX6_unevenness 72 = .ok (.i2f, 1) := by decide +kernel
theorem dX6_unevenness_73 : decode cX6_unevenness 73 = .ok (.ldc 220, 2) := by decide +kernel
theorem dX6_unevenness_75 : decode cX6_unevenness 75 = .ok (.fdiv, 1) := by decide +kernel
theorem dX6_unevenness_76 : decode cX6_unevenness 76 = .ok (.fload_n 3, 1) := by decide +kernel
theorem dX6_unevenness_77 : decode cX6_unevenness 77 = .ok (.fsub, 1) := by decide +kernel
theorem dX6_unevenness_78 : decode cX6_unevenness 78 = .ok (.fstore 6, 2) := by decide +kernel
theorem dX6_unevenness_80 : decode cX6_unevenness 80 = .ok (.fload 4, 2) := by decide +kernel
theorem dX6_unevenness_82 : decode cX6_unevenness 82 = .ok (.fload 6, 2) := by decide +kernel
theorem dX6_unevenness_84 : decode cX6_unevenness 84 = .ok (.fload 6, 2) := by decide +kernel
theorem dX6_unevenness_86 : decode cX6_unevenness 86 = .ok (.fmul, 1) := by decide +kernel
theorem dX6_unevenness_87 : decode cX6_unevenness 87 = .ok (.fadd, 1) := by decide +kernel
theorem dX6_unevenness_88 : decode cX6_unevenness 88 = .ok (.fstore 4, 2) := by decide +kernel
theorem dX6_unevenness_90 : decode cX6_unevenness 90 = .ok (.iinc 5 1, 3) := by decide +kernel
theorem dX6_unevenness_93 : decode cX6_unevenness 93 = .ok (.goto (-34), 3) := by decide +kernel
theorem dX6_unevenness_96 : decode cX6_unevenness 96 = .ok (.fload 4, 2) := by decide +kernel
theorem dX6_unevenness_98 : decode cX6_unevenness 98 = .ok (.f2d, 1) := by decide +kernel
theorem dX6_unevenness_99 : decode cX6_unevenness 99 = .ok (.ldc2_w 222, 3) := by decide +kernel
theorem dX6_unevenness_102 : decode cX6_unevenness 102 = .ok (.ddiv, 1) := by decide +kernel
theorem dX6_unevenness_103 : decode cX6_unevenness 103 = .ok (.dreturn, 1) := by decide +kernel
theorem dX6_isSound_0 : decode cX6_isSound 0 = .ok (.aload_n 0, 1) := by decide +kernel
theorem dX6_isSound_1 : decode cX6_isSound 1 = .ok (.invokevirtual 198, 3) := by decide +kernel
theorem dX6_isSound_4 : decode cX6_isSound 4 = .ok (.iconst 0, 1) := by decide +kernel
theorem dX6_isSound_5 : decode cX6_isSound 5 = .ok (.istore_n 1, 1) := by decide +kernel
theorem dX6_isSound_6 : decode cX6_isSound 6 = .ok (.iconst 0, 1) := by decide +kernel
theorem dX6_isSound_7 : decode cX6_isSound 7 = .ok (.istore_n 2, 1) := by decide +kernel
theorem dX6_isSound_8 : decode cX6_isSound 8 = .ok (.iload_n 2, 1) := by decide +kernel
theorem dX6_isSound_9 : decode cX6_isSound 9 = .ok (.sipush 480, 3) := by decide +kernel
theorem dX6_isSound_12 : decode cX6_isSound 12 = .ok (.if_icmp .ge 26, 3) := by decide +kernel
theorem dX6_isSound_15 : decode cX6_isSound 15 = .ok (.iload_n 1, 1) := by decide +kernel
theorem dX6_isSound_16 : decode cX6_isSound 16 = .ok (.aload_n 0, 1) := by decide +kernel
theorem dX6_isSound_17 : decode cX6_isSound 17 = .ok (.getfield 33, 3) := by decide +kernel
theorem dX6_isSound_20 : decode cX6_isSound 20 = .ok (.iload_n 2, 1) := by decide +kernel
theorem dX6_isSound_21 : decode cX6_isSound 21 = .ok (.iaload, 1) := by decide +kernel
theorem dX6_isSound_22 : decode cX6_isSound 22 = .ok (.ifCond .eq 7, 3) := by decide +kernel
theorem dX6_isSound_25 : decode cX6_isSound 25 = .ok (.iconst 1, 1) := by decide +kernel
theorem dX6_isSound_26 : decode cX6_isSound 26 = .ok (.goto 4, 3) := by decide +kernel
theorem dX6_isSound_29 : decode cX6_isSound 29 = .ok (.iconst 0, 1) := by decide +kernel
theorem dX6_isSound_30 : decode cX6_isSound 30 = .ok (.iadd, 1) := by decide +kernel
theorem dX6_isSound_31 : decode cX6_isSound 31 = .ok (.istore_n 1, 1) := by decide +kernel
theorem dX6_isSound_32 : decode cX6_isSound 32 = .ok (.iinc 2 1, 3) := by decide +kernel
theorem dX6_isSound_35 : decode cX6_isSound 35 = .ok (.goto (-27), 3) := by decide +kernel
theorem dX6_isSound_38 : decode cX6_isSound 38 = .ok (.iconst 0, 1) := by decide +kernel
theorem dX6_isSound_39 : decode cX6_isSound 39 = .ok (.istore_n 2, 1) := by decide +kernel
theorem dX6_isSound_40 : decode cX6_isSound 40 = .ok (.iconst 0, 1) := by decide +kernel
theorem dX6_isSound_41 : decode cX6_isSound 41 = .ok (.istore_n 3, 1) := by decide +kernel
theorem dX6_isSound_42 : decode cX6_isSound 42 = .ok (.iload_n 3, 1) := by decide +kernel
theorem dX6_isSound_43 : decode cX6_isSound 43 = .ok (.bipush 8, 2) := by decide +kernel
theorem dX6_isSound_45 : decode cX6_isSound 45 = .ok (.if_icmp .ge 32, 3) := by decide +kernel
theorem dX6_isSound_48 : decode cX6_isSound 48 = .ok (.iload_n 2, 1) := by decide +kernel
theorem dX6_isSound_49 : decode cX6_isSound 49 = .ok (.aload_n 0, 1) := by decide +kernel
theorem dX6_isSound_50 : decode cX6_isSound 50 = .ok (.iload_n 3, 1) := by decide +kernel
theorem dX6_isSound_51 : decode cX6_isSound 51 = .ok (.iconst 0, 1) := by decide +kernel
theorem dX6_isSound_52 : decode cX6_isSound 52 = .ok (.invokevirtual 96, 3) := by decide +kernel
theorem dX6_isSound_55 : decode cX6_isSound 55 = .ok (.aload_n 0, 1) := by decide +kernel
theorem dX6_isSound_56 : decode cX6_isSound 56 = .ok (.iload_n 3, 1) := by decide +kernel
theorem dX6_isSound_57 : decode cX6_isSound 57 = .ok (.iconst 4, 1) := by decide +kernel
theorem dX6_isSound_58 : decode cX6_isSound 58 = .ok (.invokevirtual 96, 3) := by decide +kernel
theorem dX6_isSound_61 : decode cX6_isSound 61 = .ok (.imul, 1) := by decide +kernel
theorem dX6_isSound_62 : decode cX6_isSound 62 = .ok (.aload_n 0, 1) := by decide +kernel
theorem dX6_isSound_63 : decode cX6_isSound 63 = .ok (.iload_n 3, 1) := by decide +kernel
theorem dX6_isSound_64 : decode cX6_isSound 64 = .ok (.iconst 5, 1) := by decide +kernel
theorem dX6_isSound_65 : decode cX6_isSound 65 = .ok (.invokevirtual 96, 3) := by decide +kernel
theorem dX6_isSound_68 : decode cX6_isSound 68 = .ok (.imul, 1) := by decide +kernel
theorem dX6_isSound_69 : decode cX6_isSound 69 = .ok (.iadd, 1) := by decide +kernel
theorem dX6_isSound_70 : decode cX6_isSound 70 = .ok (.istore_n 2, 1) := by decide +kernel
theorem dX6_isSound_71 : decode cX6_isSound 71 = .ok (.iinc 3 1, 3) := by decide +kernel
theorem dX6_isSound_74 : decode cX6_isSound 74 = .ok (.goto (-32), 3) := by decide +kernel
theorem dX6_isSound_77 : decode cX6_isSound 77 = .ok (.iconst 0, 1) := by decide +kernel
theorem dX6_isSound_78 : decode cX6_isSound 78 = .ok (.istore_n 3, 1) := by decide +kernel
theorem dX6_isSound_79 : decode cX6_isSound 79 = .ok (.iload_n 3, 1) := by decide +kernel
theorem dX6_isSound_80 : decode cX6_isSound 80 = .ok (.aload_n 0, 1) := by decide +kernel
theorem dX6_isSound_81 : decode cX6_isSound 81 = .ok (.getfield 54, 3) := by decide +kernel
theorem dX6_isSound_84 : decode cX6_isSound 84 = .ok (.if_icmp .ge 80, 3) := by decide +kernel
theorem dX6_isSound_87 : decode cX6_isSound 87 = .ok (.iconst 0, 1) := by decide +kernel
theorem dX6_isSound_88 : decode cX6_isSound 88 = .ok (.istore 4, 2) := by decide +kernel
theorem dX6_isSound_90 : decode cX6_isSound 90 = .ok (.iload 4, 2) := by decide +kernel
theorem dX6_isSound_92 : decode cX6_isSound 92 = .ok (.aload_n 0, 1) := by decide +kernel
theorem dX6_isSound_93 : decode cX6_isSound 93 = .ok (.getfield 45, 3) := by decide +kernel
theorem dX6_isSound_96 : decode cX6_isSound 96 = .ok (.aload_n 0, 1) := by decide +kernel
theorem dX6_isSound_97 : decode cX6_isSound 97 = .ok (.getfield 39, 3) := by decide +kernel
theorem dX6_isSound_100 : decode cX6_isSound 100 = .ok (.iload_n 3, 1) := by decide +kernel
theorem dX6_isSound_101 : decode cX6_isSound 101 = .ok (.iaload, 1) := by decide +kernel
theorem dX6_isSound_102 : decode cX6_isSound 102 = .ok (.iaload, 1) := by decide +kernel
theorem dX6_isSound_103 : decode cX6_isSound 103 = .ok (.if_icmp .ge 55, 3) := by decide +kernel
theorem dX6_isSound_106 : decode cX6_isSound 106 = .ok (.iload_n 2, 1) := by decide +kernel
theorem dX6_isSound_107 : decode cX6_isSound 107 = .ok (.aload_n 0, 1) := by decide +kernel
theorem dX6_isSound_108 : decode cX6_isSound 108 = .ok (.getfield 48, 3) := by decide +kernel
theorem dX6_isSound_111 : decode cX6_isSound 111 = .ok (.bipush 8, 2) := by decide +kernel
theorem dX6_isSound_113 : decode cX6_isSound 113 = .ok (.iconst 4, 1) := by decide +kernel
theorem dX6_isSound_114 : decode cX6_isSound 114 = .ok (.aload_n 0, 1) := by decide +kernel
theorem dX6_isSound_115 : decode cX6_isSound 115 = .ok (.getfield 39, 3) := by decide +kernel
theorem dX6_isSound_118 : decode cX6_isSound 118 = .ok (.iload_n 3, 1) := by decide +kernel
theorem dX6_isSound_119 : decode cX6_isSound 119 = .ok (.iaload, 1) := by decide +kernel
theorem dX6_isSound_120 : decode cX6_isSound 120 = .ok (.imul, 1) := by decide +kernel
theorem dX6_isSound_121 : decode cX6_isSound 121 = .ok (.iload 4, 2) := by decide +kernel
theorem dX6_isSound_123 : decode cX6_isSound 123 = .ok (.iadd, 1) := by decide +kernel
theorem dX6_isSound_124 : decode cX6_isSound 124 = .ok (.imul, 1) := by decide +kernel
theorem dX6_isSound_125 : decode cX6_isSound 125 = .ok (.iconst 3, 1) := by decide +kernel
theorem dX6_isSound_126 : decode cX6_isSound 126 = .ok (.iadd, 1) := by decide +kernel
theorem dX6_isSound_127 : decode cX6_isSound 127 = .ok (.iaload, 1) := by decide +kernel
theorem dX6_isSound_128 : decode cX6_isSound 128 = .ok (.aload_n 0, 1) := by decide +kernel
theorem dX6_isSound_129 : decode cX6_isSound 129 = .ok (.getfield 48, 3) := by decide +kernel
theorem dX6_isSound_132 : decode cX6_isSound 132 = .ok (.bipush 8, 2) := by decide +kernel
theorem dX6_isSound_134 : decode cX6_isSound 134 = .ok (.iconst 4, 1) := by decide +kernel
theorem dX6_isSound_135 : decode cX6_isSound 135 = .ok (.aload_n 0, 1) := by decide +kernel
theorem dX6_isSound_136 : decode cX6_isSound 136 = .ok (.getfield 39, 3) := by decide +kernel
theorem dX6_isSound_139 : decode cX6_isSound 139 = .ok (.iload_n 3, 1) := by decide +kernel
theorem dX6_isSound_140 : decode cX6_isSound 140 = .ok (.iaload, 1) := by decide +kernel
theorem dX6_isSound_141 : decode cX6_isSound 141 = .ok (.imul, 1) := by decide +kernel
theorem dX6_isSound_142 : decode cX6_isSound 142 = .ok (.iload 4, 2) := by decide +kernel
theorem dX6_isSound_144 : decode cX6_isSound 144 = .ok (.iadd, 1) := by decide +kernel
theorem dX6_isSound_145 : decode cX6_isSound 145 = .ok (.imul, 1) := by decide +kernel
theorem dX6_isSound_146 : decode cX6_isSound 146 = .ok (.iconst 4, 1) := by decide +kernel
theorem dX6_isSound_147 : decode cX6_isSound 147 = .ok (.iadd, 1) := by decide +kernel
theorem dX6_isSound_148 : decode cX6_isSound 148 = .ok (.iaload, 1) := by decide +kernel
theorem dX6_isSound_149 : decode cX6_isSound 149 = .ok (.imul, 1) := by decide +kernel
theorem dX6_isSound_150 : decode cX6_isSound 150 = .ok (.iadd, 1) := by decide +kernel
theorem dX6_isSound_151 : decode cX6_isSound 151 = .ok (.istore_n 2, 1) := by decide +kernel
theorem dX6_isSound_152 : decode cX6_isSound 152 = .ok (.iinc 4 1, 3) := by decide +kernel
theorem dX6_isSound_155 : decode cX6_isSound 155 = .ok (.goto (-65), 3) := by decide +kernel
theorem dX6_isSound_158 : decode cX6_isSound 158 = .ok (.iinc 3 1, 3) := by decide +kernel
theorem dX6_isSound_161 : decode cX6_isSound 161 = .ok (.goto (-82), 3) := by decide +kernel
theorem dX6_isSound_164 : decode cX6_isSound 164 = .ok (.iload_n 1, 1) := by decide +kernel
theorem dX6_isSound_165 : decode cX6_isSound 165 = .ok (.iload_n 2, 1) := by decide +kernel
theorem dX6_isSound_166 : decode cX6_isSound 166 = .ok (.if_icmp .ne 7, 3) := by decide +kernel
theorem dX6_isSound_169 : decode cX6_isSound 169 = .ok (.iconst 1, 1) := by decide +kernel
theorem dX6_isSound_170 : decode cX6_isSound 170 = .ok (.goto 4, 3) := by decide +kernel
theorem dX6_isSound_173 : decode cX6_isSound 173 = .ok (.iconst 0, 1) := by decide +kernel
theorem dX6_isSound_174 : decode cX6_isSound 174 = .ok (.ireturn, 1) := by decide +kernel
theorem dX6_layDown_0 : decode cX6_layDown 0 = .ok (.aload_n 0, 1) := by decide +kernel
theorem dX6_layDown_1 : decode cX6_layDown 1 = .ok (.iconst 0, 1) := by decide +kernel
theorem dX6_layDown_2 : decode cX6_layDown 2 = .ok (.putfield 3, 3) := by decide +kernel
theorem dX6_layDown_5 : decode cX6_layDown 5 = .ok (.iload_n 1, 1) := by decide +kernel
theorem dX6_layDown_6 : decode cX6_layDown 6 = .ok (.iconst 0, 1) := by decide +kernel
theorem dX6_layDown_7 : decode cX6_layDown 7 = .ok (.iconst 2, 1) := by decide +kernel
theorem dX6_layDown_8 : decode cX6_layDown 8 = .ok (.invokestatic 88, 3) := by decide +kernel
theorem dX6_layDown_11 : decode cX6_layDown 11 = .ok (.ifCond .eq 37, 3) := by decide +kernel
theorem dX6_layDown_14 : decode cX6_layDown 14 = .ok (.iload_n 2, 1) := by decide +kernel
theorem dX6_layDown_15 : decode cX6_layDown 15 = .ok (.iconst 0, 1) := by decide +kernel
theorem dX6_layDown_16 : decode cX6_layDown 16 = .ok (.iconst 3, 1) := by decide +kernel
theorem dX6_layDown_17 : decode cX6_layDown 17 = .ok (.invokestatic 88, 3) := by decide +kernel
theorem dX6_layDown_20 : decode cX6_layDown 20 = .ok (.ifCond .eq 28, 3) := by decide +kernel
theorem dX6_layDown_23 : decode cX6_layDown 23 = .ok (.iload_n 3, 1) := by decide +kernel
theorem dX6_layDown_24 : decode cX6_layDown 24 = .ok (.ifCond .eq 15, 3) := by decide +kernel
theorem dX6_layDown_27 : decode cX6_layDown 27 = .ok (.aload_n 0, 1) := by decide +kernel
theorem dX6_layDown_28 : decode cX6_layDown 28 = .ok (.iload 4, 2) := by decide +kernel
theorem dX6_layDown_30 : decode cX6_layDown 30 = .ok (.invokevirtual 111, 3) := by decide +kernel
theorem dX6_layDown_33 : decode cX6_layDown 33 = .ok (.ifCond .eq 15, 3) := by decide +kernel
theorem dX6_layDown_36 : decode cX6_layDown 36 = .ok (.goto 18, 3) := by decide +kernel
theorem dX6_layDown_39 : decode cX6_layDown 39 = .ok (.aload_n 0, 1) := by decide +kernel
theorem dX6_layDown_40 : decode cX6_layDown 40 = .ok (.iload 4, 2) := by decide +kernel
theorem dX6_layDown_42 : decode cX6_layDown 42 = .ok (.invokevirtual 141, 3) := by decide +kernel
theorem dX6_layDown_45 : decode cX6_layDown 45 = .ok (.ifCond .ne 9, 3) := by decide +kernel
theorem dX6_layDown_48 : decode cX6_layDown 48 = .ok (.aload_n 0, 1) := by decide +kernel
theorem dX6_layDown_49 : decode cX6_layDown 49 = .ok (.iconst 1, 1) := by decide +kernel
theorem dX6_layDown_50 : decode cX6_layDown 50 = .ok (.invokevirtual 99, 3) := by decide +kernel
theorem dX6_layDown_53 : decode cX6_layDown 53 = .ok (.ireturn, 1) := by decide +kernel
theorem dX6_layDown_54 : decode cX6_layDown 54 = .ok (.iload_n 1, 1) := by decide +kernel
theorem dX6_layDown_55 : decode cX6_layDown 55 = .ok (.iconst 2, 1) := by decide +kernel
theorem dX6_layDown_56 : decode cX6_layDown 56 = .ok (.if_icmp .ge 22, 3) := by decide +kernel
theorem dX6_layDown_59 : decode cX6_layDown 59 = .ok (.iload_n 1, 1) := by decide +kernel
theorem dX6_layDown_60 : decode cX6_layDown 60 = .ok (.ifCond .ne 7, 3) := by decide +kernel
theorem dX6_layDown_63 : decode cX6_layDown 63 = .ok (.iconst 1, 1) := by decide +kernel
theorem dX6_layDown_64 : decode cX6_layDown 64 = .ok (.goto 4, 3) := by decide +kernel
theorem dX6_layDown_67 : decode cX6_layDown 67 = .ok (.iconst 0, 1) := by decide +kernel
theorem dX6_layDown_68 : decode cX6_layDown 68 = .ok (.iload_n 3, 1) := by decide +kernel
theorem dX6_layDown_69 : decode cX6_layDown 69 = .ok (.if_icmp .eq 9, 3) := by decide +kernel
theorem dX6_layDown_72 : decode cX6_layDown 72 = .ok (.aload_n 0, 1) := by decide +kernel
theorem dX6_layDown_73 : decode cX6_layDown 73 = .ok (.iconst 2, 1) := by decide +kernel
theorem dX6_layDown_74 : decode cX6_layDown 74 = .ok (.invokevirtual 99, 3) := by decide +kernel
theorem dX6_layDown_77 : decode cX6_layDown 77 = .ok (.ireturn, 1) := by decide +kernel
theorem dX6_layDown_78 : decode cX6_layDown 78 = .ok (.iconst 4, 1) := by decide +kernel
theorem dX6_layDown_79 : decode cX6_layDown 79 = .ok (.iload_n 1, 1) := by decide +kernel
theorem dX6_layDown_80 : decode cX6_layDown 80 = .ok (.imul, 1) := by decide +kernel
theorem dX6_layDown_81 : decode cX6_layDown 81 = .ok (.iload_n 2, 1) := by decide +kernel
theorem dX6_layDown_82 : decode cX6_layDown 82 = .ok (.iadd, 1) := by decide +kernel
theorem dX6_layDown_83 : decode cX6_layDown 83 = .ok (.istore 5, 2) := by decide +kernel
theorem dX6_layDown_85 : decode cX6_layDown 85 = .ok (.aload_n 0, 1) := by decide +kernel
theorem dX6_layDown_86 : decode cX6_layDown 86 = .ok (.getfield 57, 3) := by decide +kernel
theorem dX6_layDown_89 : decode cX6_layDown 89 = .ok (.iload 5, 2) := by decide +kernel
theorem dX6_layDown_91 : decode cX6_layDown 91 = .ok (.iload_n 3, 1) := by decide +kernel
theorem dX6_layDown_92 : decode cX6_layDown 92 = .ok (.ifCond .eq 7, 3) := by decide +kernel
theorem dX6_layDown_95 : decode cX6_layDown 95 = .ok (.iconst 1, 1) := by decide +kernel
theorem dX6_layDown_96 : decode cX6_layDown 96 = .ok (.goto 4, 3) := by decide +kernel
theorem dX6_layDown_99 : decode cX6_layDown 99 = .ok (.iconst 2, 1) := by decide +kernel
theorem dX6_layDown_100 : decode cX6_layDown 100 = .ok (.iastore, 1) := by decide +kernel
theorem dX6_layDown_101 : decode cX6_layDown 101 = .ok (.iconst 0, 1) := by decide +kernel
theorem dX6_layDown_102 : decode cX6_layDown 102 = .ok (.istore 6, 2) := by decide +kernel
theorem dX6_layDown_104 : decode cX6_layDown 104 = .ok (.iload 6, 2) := by decide +kernel
theorem dX6_layDown_106 : decode cX6_layDown 106 = .ok (.iload_n 3, 1) := by decide +kernel
theorem dX6_layDown_107 : decode cX6_layDown 107 = .ok (.ifCond .eq 8, 3) := by decide +kernel
theorem dX6_layDown_110 : decode cX6_layDown 110 = .ok (.bipush 9, 2) := by decide +kernel
theorem dX6_layDown_112 : decode cX6_layDown 112 = .ok (.goto 5, 3) := by decide +kernel
theorem dX6_layDown_115 : decode cX6_layDown 115 = .ok (.bipush 7, 2) := by decide +kernel
theorem dX6_layDown_117 : decode cX6_layDown 117 = .ok (.if_icmp .ge 45, 3) := by decide +kernel
theorem dX6_layDown_120 : decode cX6_layDown 120 = .ok (.aload_n 0, 1) := by decide +kernel
theorem dX6_layDown_121 : decode cX6_layDown 121 = .ok (.getfield 60, 3) := by decide +kernel
theorem dX6_layDown_124 : decode cX6_layDown 124 = .ok (.bipush 9, 2) := by decide +kernel
theorem dX6_layDown_126 : decode cX6_layDown 126 = .ok (.iload 5, 2) := by decide +kernel
theorem dX6_layDown_128 : decode cX6_layDown 128 = .ok (.imul, 1) := by decide +kernel
theorem dX6_layDown_129 : decode cX6_layDown 129 = .ok (.iload 6, 2) := by decide +kernel
theorem dX6_layDown_131 : decode cX6_layDown 131 = .ok (.iadd, 1) := by decide +kernel
theorem dX6_layDown_132 : decode cX6_layDown 132 = .ok (.iload_n 3, 1) := by decide +kernel
theorem dX6_layDown_133 : decode cX6_layDown 133 = .ok (.ifCond .eq 14, 3) := by decide +kernel
theorem dX6_layDown_136 : decode cX6_layDown 136 = .ok (.aload_n 0, 1) := by decide +kernel
theorem dX6_layDown_137 : decode cX6_layDown 137 = .ok (.iload 4, 2) := by decide +kernel
theorem dX6_layDown_139 : decode cX6_layDown 139 = .ok (.iload 6, 2) := by decide +kernel
theorem dX6_layDown_141 : decode cX6_layDown 141 = .ok (.invokevirtual 92, 3) := by decide +kernel
theorem dX6_layDown_144 : decode cX6_layDown 144 = .ok (.goto 11, 3) := by decide +kernel
theorem dX6_layDown_147 : decode cX6_layDown 147 = .ok (.aload_n 0, 1) := by decide +kernel
theorem dX6_layDown_148 : decode cX6_layDown 148 = .ok (.iload 4, 2) := by decide +kernel
theorem dX6_layDown_150 : decode cX6_layDown 150 = .ok (.iload 6, 2) := by decide +kernel
theorem dX6_layDown_152 : decode cX6_layDown 152 = .ok (.invokevirtual 96, 3) := by decide +kernel
theorem dX6_layDown_155 : decode cX6_layDown 155 = .ok (.iastore, 1) := by decide +kernel
theorem dX6_layDown_156 : decode cX6_layDown 156 = .ok (.iinc 6 1, 3) := by decide +kernel
theorem dX6_layDown_159 : decode cX6_layDown 159 = .ok (.goto (-55), 3) := by decide +kernel
theorem dX6_layDown_162 : decode cX6_layDown 162 = .ok (.iconst 0, 1) := by decide +kernel
theorem dX6_layDown_163 : decode cX6_layDown 163 = .ok (.istore 6, 2) := by decide +kernel
theorem dX6_layDown_165 : decode cX6_layDown 165 = .ok (.iconst 0, 1) := by decide +kernel
theorem dX6_layDown_166 : decode cX6_layDown 166 = .ok (.istore 7, 2) := by decide +kernel
theorem dX6_layDown_168 : decode cX6_layDown 168 = .ok (.iload 7, 2) := by decide +kernel
theorem dX6_layDown_170 : decode cX6_layDown 170 = .ok (.iconst 4, 1) := by decide +kernel
theorem dX6_layDown_171 : decode cX6_layDown 171 = .ok (.if_icmp .ge 33, 3) := by decide +kernel
theorem dX6_layDown_174 : decode cX6_layDown 174 = .ok (.iload 6, 2) := by decide +kernel
theorem dX6_layDown_176 : decode cX6_layDown 176 = .ok (.aload_n 0, 1) := by decide +kernel
theorem dX6_layDown_177 : decode cX6_layDown 177 = .ok (.getfield 57, 3) := by decide +kernel
theorem dX6_layDown_180 : decode cX6_layDown 180 = .ok (.iconst 4, 1) := by decide +kernel
theorem dX6_layDown_181 : decode cX6_layDown 181 = .ok (.iload_n 1, 1) := by decide +kernel
theorem dX6_layDown_182 : decode cX6_layDown 182 = .ok (.imul, 1) := by decide +kernel
theorem dX6_layDown_183 : decode cX6_layDown 183 = .ok (.iload 7, 2) := by decide +kernel
theorem dX6_layDown_185 : decode cX6_layDown 185 = .ok (.iadd, 1) := by decide +kernel
theorem dX6_layDown_186 : decode cX6_layDown 186 = .ok (.iaload, 1) := by decide +kernel
theorem dX6_layDown_187 : decode cX6_layDown 187 = .ok (.ifCond .le 7, 3) := by decide +kernel
theorem dX6_layDown_190 : decode cX6_layDown 190 = .ok (.iconst 1, 1) := by decide +kernel
theorem dX6_layDown_191 : decode cX6_layDown 191 = .ok (.goto 4, 3) := by decide +kernel
theorem dX6_layDown_194 : decode cX6_layDown 194 = .ok (.iconst 0, 1) := by decide +kernel
theorem dX6_layDown_195 : decode cX6_layDown 195 = .ok (.iadd, 1) := by decide +kernel
theorem dX6_layDown_196 : decode cX6_layDown 196 = .ok (.istore 6, 2) := by decide +kernel
theorem dX6_layDown_198 : decode cX6_layDown 198 = .ok (.iinc 7 1, 3) := by decide +kernel
theorem dX6_layDown_201 : decode cX6_layDown 201 = .ok (.goto (-33), 3) := by decide +kernel
theorem dX6_layDown_204 : decode cX6_layDown 204 = .ok (.iload 6, 2) := by decide +kernel
theorem dX6_layDown_206 : decode cX6_layDown 206 = .ok (.ireturn, 1) := by decide +kernel
theorem dX6_takeUp_0 : decode cX6_takeUp 0 = .ok (.aload_n 0, 1) := by decide +kernel
theorem dX6_takeUp_1 : decode cX6_takeUp 1 = .ok (.invokevirtual 120, 3) := by decide +kernel
theorem dX6_takeUp_4 : decode cX6_takeUp 4 = .ok (.iload_n 1, 1) := by decide +kernel
theorem dX6_takeUp_5 : decode cX6_takeUp 5 = .ok (.iconst 0, 1) := by decide +kernel
theorem dX6_takeUp_6 : decode cX6_takeUp 6 = .ok (.iconst 2, 1) := by decide +kernel
theorem dX6_takeUp_7 : decode cX6_takeUp 7 = .ok (.invokestatic 88, 3) := by decide +kernel
theorem dX6_takeUp_10 : decode cX6_takeUp 10 = .ok (.ifCond .eq 12, 3) := by decide +kernel
theorem dX6_takeUp_13 : decode cX6_takeUp 13 = .ok (.iload_n 2, 1) := by decide +kernel
theorem dX6_takeUp_14 : decode cX6_takeUp 14 = .ok (.iconst 0, 1) := by decide +kernel
theorem dX6_takeUp_15 : decode cX6_takeUp 15 = .ok (.iconst 3, 1) := by decide +kernel
theorem dX6_takeUp_16 : decode cX6_takeUp 16 = .ok (.invokestatic 88, 3) := by decide +kernel
theorem dX6_takeUp_19 : decode cX6_takeUp 19 = .ok (.ifCond .ne 9, 3) := by decide +kernel
theorem dX6_takeUp_22 : decode cX6_takeUp 22 = .ok (.aload_n 0, 1) := by decide +kernel
theorem dX6_takeUp_23 : decode cX6_takeUp 23 = .ok (.iconst 1, 1) := by decide +kernel
theorem dX6_takeUp_24 : decode cX6_takeUp 24 = .ok (.invokevirtual 99, 3) := by decide +kernel
theorem dX6_takeUp_27 : decode cX6_takeUp 27 = .ok (.ireturn, 1) := by decide +kernel
theorem dX6_takeUp_28 : decode cX6_takeUp 28 = .ok (.iconst 4, 1) := by decide +kernel
theorem dX6_takeUp_29 : decode cX6_takeUp 29 = .ok (.iload_n 1, 1) := by decide +kernel
theorem dX6_takeUp_30 : decode cX6_takeUp 30 = .ok (.imul, 1) := by decide +kernel
theorem dX6_takeUp_31 : decode cX6_takeUp 31 = .ok (.iload_n 2, 1) := by decide +kernel
theorem dX6_takeUp_32 : decode cX6_takeUp 32 = .ok (.iadd, 1) := by decide +kernel
theorem dX6_takeUp_33 : decode cX6_takeUp 33 = .ok (.istore_n 3, 1) := by decide +kernel
theorem dX6_takeUp_34 : decode cX6_takeUp 34 = .ok (.aload_n 0, 1) := by decide +kernel
theorem dX6_takeUp_35 : decode cX6_takeUp 35 = .ok (.getfield 57, 3) := by decide +kernel
theorem dX6_takeUp_38 : decode cX6_takeUp 38 = .ok (.iload_n 3, 1) := by decide +kernel
theorem dX6_takeUp_39 : decode cX6_takeUp 39 = .ok (.iaload, 1) := by decide +kernel
theorem dX6_takeUp_40 : decode cX6_takeUp 40 = .ok (.ifCond .ne 9, 3) := by decide +kernel
theorem dX6_takeUp_43 : decode cX6_takeUp 43 = .ok (.aload_n 0, 1) := by decide +kernel
theorem dX6_takeUp_44 : decode cX6_takeUp 44 = .ok (.iconst 2, 1) := by decide +kernel
theorem dX6_takeUp_45 : decode cX6_takeUp 45 = .ok (.invokevirtual 99, 3) := by decide +kernel
theorem dX6_takeUp_48 : decode cX6_takeUp 48 = .ok (.ireturn, 1) := by decide +kernel
theorem dX6_takeUp_49 : decode cX6_takeUp 49 = .ok (.bipush 9, 2) := by decide +kernel
theorem dX6_takeUp_51 : decode cX6_takeUp 51 = .ok (.iload_n 3, 1) := by decide +kernel
theorem dX6_takeUp_52 : decode cX6_takeUp 52 = .ok (.imul, 1) := by decide +kernel
theorem dX6_takeUp_53 : decode cX6_takeUp 53 = .ok (.istore 4, 2) := by decide +kernel
theorem dX6_takeUp_55 : decode cX6_takeUp 55 = .ok (.aload_n 0, 1) := by decide +kernel
theorem dX6_takeUp_56 : decode cX6_takeUp 56 = .ok (.getfield 57, 3) := by decide +kernel
theorem dX6_takeUp_59 : decode cX6_takeUp 59 = .ok (.iload_n 3, 1) := by decide +kernel
theorem dX6_takeUp_60 : decode cX6_takeUp 60 = .ok (.iaload, 1) := by decide +kernel
theorem dX6_takeUp_61 : decode cX6_takeUp 61 = .ok (.iconst 2, 1) := by decide +kernel
theorem dX6_takeUp_62 : decode cX6_takeUp 62 = .ok (.if_icmp .ne 67, 3) := by decide +kernel
theorem dX6_takeUp_65 : decode cX6_takeUp 65 = .ok (.aload_n 0, 1) := by decide +kernel
theorem dX6_takeUp_66 : decode cX6_takeUp 66 = .ok (.aload_n 0, 1) := by decide +kernel
theorem dX6_takeUp_67 : decode cX6_takeUp 67 = .ok (.aload_n 0, 1) := by decide +kernel
theorem dX6_takeUp_68 : decode cX6_takeUp 68 = .ok (.getfield 60, 3) := by decide +kernel
theorem dX6_takeUp_71 : decode cX6_takeUp 71 = .ok (.iload 4, 2) := by decide +kernel
theorem dX6_takeUp_73 : decode cX6_takeUp 73 = .ok (.iconst 1, 1) := by decide +kernel
theorem dX6_takeUp_74 : decode cX6_takeUp 74 = .ok (.iadd, 1) := by decide +kernel
theorem dX6_takeUp_75 : decode cX6_takeUp 75 = .ok (.iaload, 1) := by decide +kernel
theorem dX6_takeUp_76 : decode cX6_takeUp 76 = .ok (.aload_n 0, 1) := by decide +kernel
theorem dX6_takeUp_77 : decode cX6_takeUp 77 = .ok (.getfield 60, 3) := by decide +kernel
theorem dX6_takeUp_80 : decode cX6_takeUp 80 = .ok (.iload 4, 2) := by decide +kernel
theorem dX6_takeUp_82 : decode cX6_takeUp 82 = .ok (.iconst 2, 1) := by decide +kernel
theorem dX6_takeUp_83 : decode cX6_takeUp 83 = .ok (.iadd, 1) := by decide +kernel
theorem dX6_takeUp_84 : decode cX6_takeUp 84 = .ok (.iaload, 1) := by decide +kernel
theorem dX6_takeUp_85 : decode cX6_takeUp 85 = .ok (.aload_n 0, 1) := by decide +kernel
theorem dX6_takeUp_86 : decode cX6_takeUp 86 = .ok (.getfield 60, 3) := by decide +kernel
theorem dX6_takeUp_89 : decode cX6_takeUp 89 = .ok (.iload 4, 2) := by decide +kernel
theorem dX6_takeUp_91 : decode cX6_takeUp 91 = .ok (.iconst 3, 1) := by decide +kernel
theorem dX6_takeUp_92 : decode cX6_takeUp 92 = .ok (.iadd, 1) := by decide +kernel
theorem dX6_takeUp_93 : decode cX6_takeUp 93 = .ok (.iaload, 1) := by decide +kernel
theorem dX6_takeUp_94 : decode cX6_takeUp 94 = .ok (.aload_n 0, 1) := by decide +kernel
theorem dX6_takeUp_95 : decode cX6_takeUp 95 = .ok (.getfield 60, 3) := by decide +kernel
theorem dX6_takeUp_98 : decode cX6_takeUp 98 = .ok (.iload 4, 2) := by decide +kernel
theorem dX6_takeUp_100 : decode cX6_takeUp 100 = .ok (.iconst 4, 1) := by decide +kernel
theorem dX6_takeUp_101 : decode cX6_takeUp 101 = .ok (.iadd, 1) := by decide +kernel
theorem dX6_takeUp_102 : decode cX6_takeUp 102 = .ok (.iaload, 1) := by decide +kernel
theorem dX6_takeUp_103 : decode cX6_takeUp 103 = .ok (.aload_n 0, 1) := by decide +kernel
theorem dX6_takeUp_104 : decode cX6_takeUp 104 = .ok (.getfield 60, 3) := by decide +kernel
theorem dX6_takeUp_107 : decode cX6_takeUp 107 = .ok (.iload 4, 2) := by decide +kernel
theorem dX6_takeUp_109 : decode cX6_takeUp 109 = .ok (.iconst 5, 1) := by decide +kernel
theorem dX6_takeUp_110 : decode cX6_takeUp 110 = .ok (.iadd, 1) := by decide +kernel
theorem dX6_takeUp_111 : decode cX6_takeUp 111 = .ok (.iaload, 1) := by decide +kernel
theorem dX6_takeUp_112 : decode cX6_takeUp 112 = .ok (.aload_n 0, 1) := by decide +kernel
theorem dX6_takeUp_113 : decode cX6_takeUp 113 = .ok (.getfield 60, 3) := by decide +kernel
theorem dX6_takeUp_116 : decode cX6_takeUp 116 = .ok (.iload 4, 2) := by decide +kernel
theorem dX6_takeUp_118 : decode cX6_takeUp 118 = .ok (.bipush 6, 2) := by decide +kernel
theorem dX6_takeUp_120 : decode cX6_takeUp 120 = .ok (.iadd, 1) := by decide +kernel
theorem dX6_takeUp_121 : decode cX6_takeUp 121 = .ok (.iaload, 1) := by decide +kernel
theorem dX6_takeUp_122 : decode cX6_takeUp 122 = .ok (.invokevirtual 123, 3) := by decide +kernel
theorem dX6_takeUp_125 : decode cX6_takeUp 125 = .ok (.invokevirtual 127, 3) := by decide +kernel
theorem dX6_takeUp_128 : decode cX6_takeUp 128 = .ok (.ireturn, 1) := by decide +kernel
theorem dX6_takeUp_129 : decode cX6_takeUp 129 = .ok (.aload_n 0, 1) := by decide +kernel
theorem dX6_takeUp_130 : decode cX6_takeUp 130 = .ok (.aload_n 0, 1) := by decide +kernel
theorem dX6_takeUp_131 : decode cX6_takeUp 131 = .ok (.getfield 60, 3) := by decide +kernel
theorem dX6_takeUp_134 : decode cX6_takeUp 134 = .ok (.iload 4, 2) := by decide +kernel
theorem dX6_takeUp_136 : decode cX6_takeUp 136 = .ok (.iconst 1, 1) := by decide +kernel
theorem dX6_takeUp_137 : decode cX6_takeUp 137 = .ok (.iadd, 1) := by decide +kernel
theorem dX6_takeUp_138 : decode cX6_takeUp 138 = .ok (.iaload, 1) := by decide +kernel
theorem dX6_takeUp_139 : decode cX6_takeUp 139 = .ok (.aload_n 0, 1) := by decide +kernel
theorem dX6_takeUp_140 : decode cX6_takeUp 140 = .ok (.getfield 60, 3) := by decide +kernel
theorem dX6_takeUp_143 : decode cX6_takeUp 143 = .ok (.iload 4, 2) := by decide +kernel
theorem dX6_takeUp_145 : decode cX6_takeUp 145 = .ok (.iconst 2, 1) := by decide +kernel
theorem dX6_takeUp_146 : decode cX6_takeUp 146 = .ok (.iadd, 1) := by decide +kernel
theorem dX6_takeUp_147 : decode cX6_takeUp 147 = .ok (.iaload, 1) := by decide +kernel
theorem dX6_takeUp_148 : decode cX6_takeUp 148 = .ok (.aload_n 0, 1) := by decide +kernel
theorem dX6_takeUp_149 : decode cX6_takeUp 149 = .ok (.getfield 60, 3) := by decide +kernel
theorem dX6_takeUp_152 : decode cX6_takeUp 152 = .ok (.iload 4, 2) := by decide +kernel
theorem dX6_takeUp_154 : decode cX6_takeUp 154 = .ok (.iconst 3, 1) := by decide +kernel
theorem dX6_takeUp_155 : decode cX6_takeUp 155 = .ok (.iadd, 1) := by decide +kernel
theorem dX6_takeUp_156 : decode cX6_takeUp 156 = .ok (.iaload, 1) := by decide +kernel
theorem dX6_takeUp_157 : decode cX6_takeUp 157 = .ok (.aload_n 0, 1) := by decide +kernel
theorem dX6_takeUp_158 : decode cX6_takeUp 158 = .ok (.getfield 60, 3) := by decide +kernel
theorem dX6_takeUp_161 : decode cX6_takeUp 161 = .ok (.iload 4, 2) := by decide +kernel
theorem dX6_takeUp_163 : decode cX6_takeUp 163 = .ok (.iconst 4, 1) := by decide +kernel
theorem dX6_takeUp_164 : decode cX6_takeUp 164 = .ok (.iadd, 1) := by decide +kernel
theorem dX6_takeUp_165 : decode cX6_takeUp 165 = .ok (.iaload, 1) := by decide +kernel
theorem dX6_takeUp_166 : decode cX6_takeUp 166 = .ok (.aload_n 0, 1) := by decide +kernel
theorem dX6_takeUp_167 : decode cX6_takeUp 167 = .ok (.getfield 60, 3) := by decide +kernel
theorem dX6_takeUp_170 : decode cX6_takeUp 170 = .ok (.iload 4, 2) := by decide +kernel
theorem dX6_takeUp_172 : decode cX6_takeUp 172 = .ok (.iconst 5, 1) := by decide +kernel
theorem dX6_takeUp_173 : decode cX6_takeUp 173 = .ok (.iadd, 1) := by decide +kernel
theorem dX6_takeUp_174 : decode cX6_takeUp 174 = .ok (.iaload, 1) := by decide +kernel
theorem dX6_takeUp_175 : decode cX6_takeUp 175 = .ok (.invokevirtual 130, 3) := by decide +kernel
theorem dX6_takeUp_178 : decode cX6_takeUp 178 = .ok (.istore 5, 2) := by decide +kernel
theorem dX6_takeUp_180 : decode cX6_takeUp 180 = .ok (.bipush 6, 2) := by decide +kernel
theorem dX6_takeUp_182 : decode cX6_takeUp 182 = .ok (.istore 6, 2) := by decide +kernel
theorem dX6_takeUp_184 : decode cX6_takeUp 184 = .ok (.iload 6, 2) := by decide +kernel
theorem dX6_takeUp_186 : decode cX6_takeUp 186 = .ok (.bipush 9, 2) := by decide +kernel
theorem dX6_takeUp_188 : decode cX6_takeUp 188 = .ok (.if_icmp .ge 41, 3) := by decide +kernel
theorem dX6_takeUp_191 : decode cX6_takeUp 191 = .ok (.aload_n 0, 1) := by decide +kernel
theorem dX6_takeUp_192 : decode cX6_takeUp 192 = .ok (.getfield 3, 3) := by decide +kernel
theorem dX6_takeUp_195 : decode cX6_takeUp 195 = .ok (.ifCond .ne 34, 3) := by decide +kernel
theorem dX6_takeUp_198 : decode cX6_takeUp 198 = .ok (.aload_n 0, 1) := by decide +kernel
theorem dX6_takeUp_199 : decode cX6_takeUp 199 = .ok (.getfield 13, 3) := by decide +kernel
theorem dX6_takeUp_202 : decode cX6_takeUp 202 = .ok (.iconst 2, 1) := by decide +kernel
theorem dX6_takeUp_203 : decode cX6_takeUp 203 = .ok (.bipush 9, 2) := by decide +kernel
theorem dX6_takeUp_205 : decode cX6_takeUp 205 = .ok (.iload 5, 2) := by decide +kernel
theorem dX6_takeUp_207 : decode cX6_takeUp 207 = .ok (.imul, 1) := by decide +kernel
theorem dX6_takeUp_208 : decode cX6_takeUp 208 = .ok (.iadd, 1) := by decide +kernel
theorem dX6_takeUp_209 : decode cX6_takeUp 209 = .ok (.iload 6, 2) := by decide +kernel
theorem dX6_takeUp_211 : decode cX6_takeUp 211 = .ok (.iadd, 1) := by decide +kernel
theorem dX6_takeUp_212 : decode cX6_takeUp 212 = .ok (.aload_n 0, 1) := by decide +kernel
theorem dX6_takeUp_213 : decode cX6_takeUp 213 = .ok (.getfield 60, 3) := by decide +kernel
theorem dX6_takeUp_216 : decode cX6_takeUp 216 = .ok (.iload 4, 2) := by decide +kernel
theorem dX6_takeUp_218 : decode cX6_takeUp 218 = .ok (.iload 6, 2) := by decide +kernel
theorem dX6_takeUp_220 : decode cX6_takeUp 220 = .ok (.iadd, 1) := by decide +kernel
theorem dX6_takeUp_221 : decode cX6_takeUp 221 = .ok (.iaload, 1) := by decide +kernel
theorem dX6_takeUp_222 : decode cX6_takeUp 222 = .ok (.iastore, 1) := by decide +kernel
theorem dX6_takeUp_223 : decode cX6_takeUp 223 = .ok (.iinc 6 1, 3) := by decide +kernel
theorem dX6_takeUp_226 : decode cX6_takeUp 226 = .ok (.goto (-42), 3) := by decide +kernel
theorem dX6_takeUp_229 : decode cX6_takeUp 229 = .ok (.aload_n 0, 1) := by decide +kernel
theorem dX6_takeUp_230 : decode cX6_takeUp 230 = .ok (.iload 5, 2) := by decide +kernel
theorem dX6_takeUp_232 : decode cX6_takeUp 232 = .ok (.invokevirtual 127, 3) := by decide +kernel
theorem dX6_takeUp_235 : decode cX6_takeUp 235 = .ok (.ireturn, 1) := by decide +kernel
theorem dX6_feed_0 : decode cX6_feed 0 = .ok (.aload_n 0, 1) := by decide +kernel
theorem dX6_feed_1 : decode cX6_feed 1 = .ok (.iconst 0, 1) := by decide +kernel
theorem dX6_feed_2 : decode cX6_feed 2 = .ok (.putfield 3, 3) := by decide +kernel
theorem dX6_feed_5 : decode cX6_feed 5 = .ok (.aload_n 0, 1) := by decide +kernel
theorem dX6_feed_6 : decode cX6_feed 6 = .ok (.getfield 69, 3) := by decide +kernel
theorem dX6_feed_9 : decode cX6_feed 9 = .ok (.bipush 80, 2) := by decide +kernel
theorem dX6_feed_11 : decode cX6_feed 11 = .ok (.if_icmp .ne 9, 3) := by decide +kernel
theorem dX6_feed_14 : decode cX6_feed 14 = .ok (.aload_n 0, 1) := by decide +kernel
theorem dX6_feed_15 : decode cX6_feed 15 = .ok (.iconst 1, 1) := by decide +kernel
theorem dX6_feed_16 : decode cX6_feed 16 = .ok (.invokevirtual 99, 3) := by decide +kernel
theorem dX6_feed_19 : decode cX6_feed 19 = .ok (.ireturn, 1) := by decide +kernel
theorem dX6_feed_20 : decode cX6_feed 20 = .ok (.aload_n 0, 1) := by decide +kernel
theorem dX6_feed_21 : decode cX6_feed 21 = .ok (.getfield 63, 3) := by decide +kernel
theorem dX6_feed_24 : decode cX6_feed 24 = .ok (.aload_n 0, 1) := by decide +kernel
theorem dX6_feed_25 : decode cX6_feed 25 = .ok (.getfield 69, 3) := by decide +kernel
theorem dX6_feed_28 : decode cX6_feed 28 = .ok (.iload_n 1, 1) := by decide +kernel
theorem dX6_feed_29 : decode cX6_feed 29 = .ok (.iastore, 1) := by decide +kernel
theorem dX6_feed_30 : decode cX6_feed 30 = .ok (.aload_n 0, 1) := by decide +kernel
theorem dX6_feed_31 : decode cX6_feed 31 = .ok (.dup, 1) := by decide +kernel
theorem dX6_feed_32 : decode cX6_feed 32 = .ok (.getfield 69, 3) := by decide +kernel
theorem dX6_feed_35 : decode cX6_feed 35 = .ok (.iconst 1, 1) := by decide +kernel
theorem dX6_feed_36 : decode cX6_feed 36 = .ok (.iadd, 1) := by decide +kernel
theorem dX6_feed_37 : decode cX6_feed 37 = .ok (.putfield 69, 3) := by decide +kernel
theorem dX6_feed_40 : decode cX6_feed 40 = .ok (.aload_n 0, 1) := by decide +kernel
theorem dX6_feed_41 : decode cX6_feed 41 = .ok (.getfield 69, 3) := by decide +kernel
theorem dX6_feed_44 : decode cX6_feed 44 = .ok (.ireturn, 1) := by decide +kernel
theorem dX6_sign_0 : decode cX6_sign 0 = .ok (.aload_n 0, 1) := by decide +kernel
theorem dX6_sign_1 : decode cX6_sign 1 = .ok (.getfield 81, 3) := by decide +kernel
theorem dX6_sign_4 : decode cX6_sign 4 = .ok (.ifCond .ne 26, 3) := by decide +kernel
theorem dX6_sign_7 : decode cX6_sign 7 = .ok (.aload_n 0, 1) := by decide +kernel
theorem dX6_sign_8 : decode cX6_sign 8 = .ok (.getfield 72, 3) := by decide +kernel
theorem dX6_sign_11 : decode cX6_sign 11 = .ok (.aload_n 0, 1) := by decide +kernel
theorem dX6_sign_12 : decode cX6_sign 12 = .ok (.getfield 69, 3) := by decide +kernel
theorem dX6_sign_15 : decode cX6_sign 15 = .ok (.if_icmp .ge 15, 3) := by decide +kernel
theorem dX6_sign_18 : decode cX6_sign 18 = .ok (.aload_n 0, 1) := by decide +kernel
theorem dX6_sign_19 : decode cX6_sign 19 = .ok (.getfield 63, 3) := by decide +kernel
theorem dX6_sign_22 : decode cX6_sign 22 = .ok (.aload_n 0, 1) := by decide +kernel
theorem dX6_sign_23 : decode cX6_sign 23 = .ok (.getfield 72, 3) := by decide +kernel
theorem dX6_sign_26 : decode cX6_sign 26 = .ok (.iaload, 1) := by decide +kernel
theorem dX6_sign_27 : decode cX6_sign 27 = .ok (.goto 4, 3) := by decide +kernel
theorem dX6_sign_30 : decode cX6_sign 30 = .ok (.iconst (-1), 1) := by decide +kernel
theorem dX6_sign_31 : decode cX6_sign 31 = .ok (.ireturn, 1) := by decide +kernel
theorem dX6_number_0 : decode cX6_number 0 = .ok (.iconst 0, 1) := by decide +kernel
theorem dX6_number_1 : decode cX6_number 1 = .ok (.istore_n 1, 1) := by decide +kernel
theorem dX6_number_2 : decode cX6_number 2 = .ok (.iconst 0, 1) := by decide +kernel
theorem dX6_number_3 : decode cX6_number 3 = .ok (.istore_n 2, 1) := by decide +kernel
theorem dX6_number_4 : decode cX6_number 4 = .ok (.iload_n 2, 1) := by decide +kernel
theorem dX6_number_5 : decode cX6_number 5 = .ok (.iconst 3, 1) := by decide +kernel
theorem dX6_number_6 : decode cX6_number 6 = .ok (.if_icmp .ge 46, 3) := by decide +kernel
theorem dX6_number_9 : decode cX6_number 9 = .ok (.aload_n 0, 1) := by decide +kernel
theorem dX6_number_10 : decode cX6_number 10 = .ok (.invokevirtual 224, 3) := by decide +kernel
theorem dX6_number_13 : decode cX6_number 13 = .ok (.bipush 48, 2) := by decide +kernel
theorem dX6_number_15 : decode cX6_number 15 = .ok (.bipush 57, 2) := by decide +kernel
theorem dX6_number_17 : decode cX6_number 17 = .ok (.invokestatic 88, 3) := by decide +kernel
theorem dX6_number_20 : decode cX6_number 20 = .ok (.ifCond .eq 32, 3) := by decide +kernel
theorem dX6_number_23 : decode cX6_number 23 = .ok (.bipush 10, 2) := by decide +kernel
theorem dX6_number_25 : decode cX6_number 25 = .ok (.iload_n 1, 1) := by decide +kernel
theorem dX6_number_26 : decode cX6_number 26 = .ok (.imul, 1) := by decide +kernel
theorem dX6_number_27 : decode cX6_number 27 = .ok (.aload_n 0, 1) := by decide +kernel
theorem dX6_number_28 : decode cX6_number 28 = .ok (.invokevirtual 224, 3) := by decide +kernel
theorem dX6_number_31 : decode cX6_number 31 = .ok (.iadd, 1) := by decide +kernel
theorem dX6_number_32 : decode cX6_number 32 = .ok (.bipush 48, 2) := by decide +kernel
theorem dX6_number_34 : decode cX6_number 34 = .ok (.isub, 1) := by decide +kernel
theorem dX6_number_35 : decode cX6_number 35 = .ok (.istore_n 1, 1) := by decide +kernel
theorem dX6_number_36 : decode cX6_number 36 = .ok (.aload_n 0, 1) := by decide +kernel
theorem dX6_number_37 : decode cX6_number 37 = .ok (.dup, 1) := by decide +kernel
theorem dX6_number_38 : decode cX6_number 38 = .ok (.getfield 72, 3) := by decide +kernel
theorem dX6_number_41 : decode cX6_number 41 = .ok (.iconst 1, 1) := by decide +kernel
theorem dX6_number_42 : decode cX6_number 42 = .ok (.iadd, 1) := by decide +kernel
theorem dX6_number_43 : decode cX6_number 43 = .ok (.putfield 72, 3) := by decide +kernel
theorem dX6_number_46 : decode cX6_number 46 = .ok (.iinc 2 1, 3) := by decide +kernel
theorem dX6_number_49 : decode cX6_number 49 = .ok (.goto (-45), 3) := by decide +kernel
theorem dX6_number_52 : decode cX6_number 52 = .ok (.aload_n 0, 1) := by decide +kernel
theorem dX6_number_53 : decode cX6_number 53 = .ok (.dup, 1) := by decide +kernel
theorem dX6_number_54 : decode cX6_number 54 = .ok (.getfield 81, 3) := by decide +kernel
theorem dX6_number_57 : decode cX6_number 57 = .ok (.iload_n 2, 1) := by decide +kernel
theorem dX6_number_58 : decode cX6_number 58 = .ok (.ifCond .ne 7, 3) := by decide +kernel
theorem dX6_number_61 : decode cX6_number 61 = .ok (.iconst 1, 1) := by decide +kernel
theorem dX6_number_62 : decode cX6_number 62 = .ok (.goto 4, 3) := by decide +kernel
theorem dX6_number_65 : decode cX6_number 65 = .ok (.iconst 0, 1) := by decide +kernel
theorem dX6_number_66 : decode cX6_number 66 = .ok (.ior, 1) := by decide +kernel
theorem dX6_number_67 : decode cX6_number 67 = .ok (.putfield 81, 3) := by decide +kernel
theorem dX6_number_70 : decode cX6_number 70 = .ok (.iload_n 1, 1) := by decide +kernel
theorem dX6_number_71 : decode cX6_number 71 = .ok (.ireturn, 1) := by decide +kernel
theorem dX6_command_0 : decode cX6_command 0 = .ok (.aload_n 0, 1) := by decide +kernel
theorem dX6_command_1 : decode cX6_command 1 = .ok (.invokevirtual 224, 3) := by decide +kernel
theorem dX6_command_4 : decode cX6_command 4 = .ok (.istore_n 1, 1) := by decide +kernel
theorem dX6_command_5 : decode cX6_command 5 = .ok (.iload_n 1, 1) := by decide +kernel
theorem dX6_command_6 : decode cX6_command 6 = .ok (.bipush 115, 2) := by decide +kernel
theorem dX6_command_8 : decode cX6_command 8 = .ok (.if_icmp .ne 7, 3) := by decide +kernel
theorem dX6_command_11 : decode cX6_command 11 = .ok (.iconst 5, 1) := by decide +kernel
theorem dX6_command_12 : decode cX6_command 12 = .ok (.goto 35, 3) := by decide +kernel
theorem dX6_command_15 : decode cX6_command 15 = .ok (.iload_n 1, 1) := by decide +kernel
theorem dX6_command_16 : decode cX6_command 16 = .ok (.bipush 97, 2) := by decide +kernel
theorem dX6_command_18 : decode cX6_command 18 = .ok (.if_icmp .ne 8, 3) := by decide +kernel
theorem dX6_command_21 : decode cX6_command 21 = .ok (.bipush 6, 2) := by decide +kernel
theorem dX6_command_23 : decode cX6_command 23 = .ok (.goto 24, 3) := by decide +kernel
theorem dX6_command_26 : decode cX6_command 26 = .ok (.iload_n 1, 1) := by decide +kernel
theorem dX6_command_27 : decode cX6_command 27 = .ok (.bipush 112, 2) := by decide +kernel
theorem dX6_command_29 : decode cX6_command 29 = .ok (.if_icmp .ne 7, 3) := by decide +kernel
theorem dX6_command_32 : decode cX6_command 32 = .ok (.iconst 3, 1) := by decide +kernel
theorem dX6_command_33 : decode cX6_command 33 = .ok (.goto 14, 3) := by decide +kernel
theorem dX6_command_36 : decode cX6_command 36 = .ok (.iload_n 1, 1) := by decide +kernel
theorem dX6_command_37 : decode cX6_command 37 = .ok (.bipush 108, 2) := by decide +kernel
theorem dX6_command_39 : decode cX6_command 39 = .ok (.if_icmp .ne 7, 3) := by decide +kernel
theorem dX6_command_42 : decode cX6_command 42 = .ok (.iconst 2, 1) := by decide +kernel
theorem dX6_command_43 : decode cX6_command 43 = .ok (.goto 4, 3) := by decide +kernel
theorem dX6_command_46 : decode cX6_command 46 = .ok (.iconst 0, 1) := by decide +kernel
theorem dX6_command_47 : decode cX6_command 47 = .ok (.istore_n 2, 1) := by decide +kernel
theorem dX6_command_48 : decode cX6_command 48 = .ok (.aload_n 0, 1) := by decide +kernel
theorem dX6_command_49 : decode cX6_command 49 = .ok (.dup, 1) := by decide +kernel
theorem dX6_command_50 : decode cX6_command 50 = .ok (.getfield 81, 3) := by decide +kernel
theorem dX6_command_53 : decode cX6_command 53 = .ok (.iload_n 2, 1) := by decide +kernel
theorem dX6_command_54 : decode cX6_command 54 = .ok (.ifCond .ne 7, 3) := by decide +kernel
theorem dX6_command_57 : decode cX6_command 57 = .ok (.iconst 1, 1) := by decide +kernel
theorem dX6_command_58 : decode cX6_command 58 = .ok (.goto 4, 3) := by decide +kernel
theorem dX6_command_61 : decode cX6_command 61 = .ok (.iconst 0, 1) := by decide +kernel
theorem dX6_command_62 : decode cX6_command 62 = .ok (.ior, 1) := by decide +kernel
theorem dX6_command_63 : decode cX6_command 63 = .ok (.putfield 81, 3) := by decide +kernel
theorem dX6_command_66 : decode cX6_command 66 = .ok (.aload_n 0, 1) := by decide +kernel
theorem dX6_command_67 : decode cX6_command 67 = .ok (.getfield 81, 3) := by decide +kernel
theorem dX6_command_70 : decode cX6_command 70 = .ok (.ifCond .eq 5, 3) := by decide +kernel
theorem dX6_command_73 : decode cX6_command 73 = .ok (.iconst (-1), 1) := by decide +kernel
theorem dX6_command_74 : decode cX6_command 74 = .ok (.ireturn, 1) := by decide +kernel
theorem dX6_command_75 : decode cX6_command 75 = .ok (.aload_n 0, 1) := by decide +kernel
theorem dX6_command_76 : decode cX6_command 76 = .ok (.dup, 1) := by decide +kernel
theorem dX6_command_77 : decode cX6_command 77 = .ok (.getfield 72, 3) := by decide +kernel
theorem dX6_command_80 : decode cX6_command 80 = .ok (.iconst 1, 1) := by decide +kernel
theorem dX6_command_81 : decode cX6_command 81 = .ok (.iadd, 1) := by decide +kernel
theorem dX6_command_82 : decode cX6_command 82 = .ok (.putfield 72, 3) := by decide +kernel
theorem dX6_command_85 : decode cX6_command 85 = .ok (.iconst 0, 1) := by decide +kernel
theorem dX6_command_86 : decode cX6_command 86 = .ok (.istore_n 3, 1) := by decide +kernel
theorem dX6_command_87 : decode cX6_command 87 = .ok (.iload_n 3, 1) := by decide +kernel
theorem dX6_command_88 : decode cX6_command 88 = .ok (.iload_n 2, 1) := by decide +kernel
theorem dX6_command_89 : decode cX6_command 89 = .ok (.if_icmp .ge 77, 3) := by decide +kernel
theorem dX6_command_92 : decode cX6_command 92 = .ok (.aload_n 0, 1) := by decide +kernel
theorem dX6_command_93 : decode cX6_command 93 = .ok (.getfield 81, 3) := by decide +kernel
theorem dX6_command_96 : decode cX6_command 96 = .ok (.ifCond .ne 70, 3) := by decide +kernel
theorem dX6_command_99 : decode cX6_command 99 = .ok (.aload_n 0, 1) := by decide +kernel
theorem dX6_command_100 : decode cX6_command 100 = .ok (.dup, 1) := by decide +kernel
theorem dX6_command_101 : decode cX6_command 101 = .ok (.getfield 81, 3) := by decide +kernel
theorem dX6_command_104 : decode cX6_command 104 = .ok (.iload_n 3, 1) := by decide +kernel
theorem dX6_command_105 : decode cX6_command 105 = .ok (.ifCond .le 16, 3) := by decide +kernel
theorem dX6_command_108 : decode cX6_command 108 = .ok (.aload_n 0, 1) := by decide +kernel
theorem dX6_command_109 : decode cX6_command 109 = .ok (.invokevirtual 224, 3) := by decide +kernel
theorem dX6_command_112 : decode cX6_command 112 = .ok (.bipush 44, 2) := by decide +kernel
theorem dX6_command_114 : decode cX6_command 114 = .ok (.if_icmp .eq 7, 3) := by decide +kernel
theorem dX6_command_117 : decode cX6_command 117 = .ok (.iconst 1, 1) := by decide +kernel
theorem dX6_command_118 : decode cX6_command 118 = .ok (.goto 4, 3) := by decide +kernel
theorem dX6_command_121 : decode cX6_command 121 = .ok (.iconst 0, 1) := by decide +kernel
theorem dX6_command_122 : decode cX6_command 122 = .ok (.ior, 1) := by decide +kernel
theorem dX6_command_123 : decode cX6_command 123 = .ok (.putfield 81, 3) := by decide +kernel
theorem dX6_command_126 : decode cX6_command 126 = .ok (.aload_n 0, 1) := by decide +kernel
theorem dX6_command_127 : decode cX6_command 127 = .ok (.getfield 81, 3) := by decide +kernel
theorem dX6_command_130 : decode cX6_command 130 = .ok (.ifCond .eq 6, 3) := by decide +kernel
theorem dX6_command_133 : decode cX6_command 133 = .ok (.goto 27, 3) := by decide +kernel
theorem dX6_command_136 : decode cX6_command 136 = .ok (.iload_n 3, 1) := by decide +kernel
theorem dX6_command_137 : decode cX6_command 137 = .ok (.ifCond .le 13, 3) := by decide +kernel
theorem dX6_command_140 : decode cX6_command 140 = .ok (.aload_n 0, 1) := by decide +kernel
theorem dX6_command_141 : decode cX6_command 141 = .ok (.dup, 1) := by decide +kernel
theorem dX6_command_142 : decode cX6_command 142 = .ok (.getfield 72, 3) := by decide +kernel
theorem dX6_command_145 : decode cX6_command 145 = .ok (.iconst 1, 1) := by decide +kernel
theorem dX6_command_146 : decode cX6_command 146 = .ok (.iadd, 1) := by decide +kernel
theorem dX6_command_147 : decode cX6_command 147 = .ok (.putfield 72, 3) := by decide +kernel
theorem dX6_command_150 : decode cX6_command 150 = .ok (.aload_n 0, 1) := by decide +kernel
theorem dX6_command_151 : decode cX6_command 151 = .ok (.getfield 66, 3) := by decide +kernel
theorem dX6_command_154 : decode cX6_command 154 = .ok (.iload_n 3, 1) := by decide +kernel
theorem dX6_command_155 : decode cX6_command 155 = .ok (.aload_n 0, 1) := by decide +kernel
theorem dX6_command_156 : decode cX6_command 156 = .ok (.invokevirtual 228, 3) := by decide +kernel
theorem dX6_command_159 : decode cX6_command 159 = .ok (.iastore, 1) := by decide +kernel
theorem dX6_command_160 : decode cX6_command 160 = .ok (.iinc 3 1, 3) := by decide +kernel
theorem dX6_command_163 : decode cX6_command 163 = .ok (.goto (-76), 3) := by decide +kernel
theorem dX6_command_166 : decode cX6_command 166 = .ok (.iload_n 1, 1) := by decide +kernel
theorem dX6_command_167 : decode cX6_command 167 = .ok (.ireturn, 1) := by decide +kernel
theorem dX6_does_0 : decode cX6_does 0 = .ok (.iload_n 1, 1) := by decide +kernel
theorem dX6_does_1 : decode cX6_does 1 = .ok (.bipush 115, 2) := by decide +kernel
theorem dX6_does_3 : decode cX6_does 3 = .ok (.if_icmp .ne 38, 3) := by decide +kernel
theorem dX6_does_6 : decode cX6_does 6 = .ok (.aload_n 0, 1) := by decide +kernel
theorem dX6_does_7 : decode cX6_does 7 = .ok (.aload_n 0, 1) := by decide +kernel
theorem dX6_does_8 : decode cX6_does 8 = .ok (.getfield 66, 3) := by decide +kernel
theorem dX6_does_11 : decode cX6_does 11 = .ok (.iconst 0, 1) := by decide +kernel
theorem dX6_does_12 : decode cX6_does 12 = .ok (.iaload, 1) := by decide +kernel
theorem dX6_does_13 : decode cX6_does 13 = .ok (.aload_n 0, 1) := by decide +kernel
theorem dX6_does_14 : decode cX6_does 14 = .ok (.getfield 66, 3) := by decide +kernel
theorem dX6_does_17 : decode cX6_does 17 = .ok (.iconst 1, 1) := by decide +kernel
theorem dX6_does_18 : decode cX6_does 18 = .ok (.iaload, 1) := by decide +kernel
theorem dX6_does_19 : decode cX6_does 19 = .ok (.aload_n 0, 1) := by decide +kernel
theorem dX6_does_20 : decode cX6_does 20 = .ok (.getfield 66, 3) := by decide +kernel
theorem dX6_does_23 : decode cX6_does 23 = .ok (.iconst 2, 1) := by decide +kernel
theorem dX6_does_24 : decode cX6_does 24 = .ok (.iaload, 1) := by decide +kernel
theorem dX6_does_25 : decode cX6_does 25 = .ok (.aload_n 0, 1) := by decide +kernel
theorem dX6_does_26 : decode cX6_does 26 = .ok (.getfield 66, 3) := by decide +kernel
theorem dX6_does_29 : decode cX6_does 29 = .ok (.iconst 3, 1) := by decide +kernel
theorem dX6_does_30 : decode cX6_does 30 = .ok (.iaload, 1) := by decide +kernel
theorem dX6_does_31 : decode cX6_does 31 = .ok (.aload_n 0, 1) := by decide +kernel
theorem dX6_does_32 : decode cX6_does 32 = .ok (.getfield 66, 3) := by decide +kernel
theorem dX6_does_35 : decode cX6_does 35 = .ok (.iconst 4, 1) := by decide +kernel
theorem dX6_does_36 : decode cX6_does 36 = .ok (.iaload, 1) := by decide +kernel
theorem dX6_does_37 : decode cX6_does 37 = .ok (.invokevirtual 130, 3) := by decide +kernel
theorem dX6_does_40 : decode cX6_does 40 = .ok (.ireturn, 1) := by decide +kernel
theorem dX6_does_41 : decode cX6_does 41 = .ok (.iload_n 1, 1) := by decide +kernel
theorem dX6_does_42 : decode cX6_does 42 = .ok (.bipush 97, 2) := by decide +kernel
theorem dX6_does_44 : decode cX6_does 44 = .ok (.if_icmp .ne 44, 3) := by decide +kernel
theorem dX6_does_47 : decode cX6_does 47 = .ok (.aload_n 0, 1) := by decide +kernel
theorem dX6_does_48 : decode cX6_does 48 = .ok (.aload_n 0, 1) := by decide +kernel
theorem dX6_does_49 : decode cX6_does 49 = .ok (.getfield 66, 3) := by decide +kernel
theorem dX6_does_52 : decode cX6_does 52 = .ok (.iconst 0, 1) := by decide +kernel
theorem dX6_does_53 : decode cX6_does 53 = .ok (.iaload, 1) := by decide +kernel
theorem dX6_does_54 : decode cX6_does 54 = .ok (.aload_n 0, 1) := by decide +kernel
theorem dX6_does_55 : decode cX6_does 55 = .ok (.getfield 66, 3) := by decide +kernel
theorem dX6_does_58 : decode cX6_does 58 = .ok (.iconst 1, 1) := by decide +kernel
theorem dX6_does_59 : decode cX6_does 59 = .ok (.iaload, 1) := by decide +kernel
theorem dX6_does_60 : decode cX6_does 60 = .ok (.aload_n 0, 1) := by decide +kernel
theorem dX6_does_61 : decode cX6_does 61 = .ok (.getfield 66, 3) := by decide +kernel
theorem dX6_does_64 : decode cX6_does 64 = .ok (.iconst 2, 1) := by decide +kernel
theorem dX6_does_65 : decode cX6_does 65 = .ok (.iaload, 1) := by decide +kernel
theorem dX6_does_66 : decode cX6_does 66 = .ok (.aload_n 0, 1) := by decide +kernel
theorem dX6_does_67 : decode cX6_does 67 = .ok (.getfield 66, 3) := by decide +kernel
theorem dX6_does_70 : decode cX6_does 70 = .ok (.iconst 3, 1) := by decide +kernel
theorem dX6_does_71 : decode cX6_does 71 = .ok (.iaload, 1) := by decide +kernel
theorem dX6_does_72 : decode cX6_does 72 = .ok (.aload_n 0, 1) := by decide +kernel
theorem dX6_does_73 : decode cX6_does 73 = .ok (.getfield 66, 3) := by decide +kernel
theorem dX6_does_76 : decode cX6_does 76 = .ok (.iconst 4, 1) := by decide +kernel
theorem dX6_does_77 : decode cX6_does 77 = .ok (.iaload, 1) := by decide +kernel
theorem dX6_does_78 : decode cX6_does 78 = .ok (.aload_n 0, 1) := by decide +kernel
theorem dX6_does_79 : decode cX6_does 79 = .ok (.getfield 66, 3) := by decide +kernel
theorem dX6_does_82 : decode cX6_does 82 = .ok (.iconst 5, 1) := by decide +kernel
theorem dX6_does_83 : decode cX6_does 83 = .ok (.iaload, 1) := by decide +kernel
theorem dX6_does_84 : decode cX6_does 84 = .ok (.invokevirtual 123, 3) := by decide +kernel
theorem dX6_does_87 : decode cX6_does 87 = .ok (.ireturn, 1) := by decide +kernel
theorem dX6_does_88 : decode cX6_does 88 = .ok (.iload_n 1, 1) := by decide +kernel
theorem dX6_does_89 : decode cX6_does 89 = .ok (.bipush 112, 2) := by decide +kernel
theorem dX6_does_91 : decode cX6_does 91 = .ok (.if_icmp .ne 28, 3) := by decide +kernel
theorem dX6_does_94 : decode cX6_does 94 = .ok (.aload_n 0, 1) := by decide +kernel
theorem dX6_does_95 : decode cX6_does 95 = .ok (.aload_n 0, 1) := by decide +kernel
theorem dX6_does_96 : decode cX6_does 96 = .ok (.getfield 66, 3) := by decide +kernel
theorem dX6_does_99 : decode cX6_does 99 = .ok (.iconst 0, 1) := by decide +kernel
theorem dX6_does_100 : decode cX6_does 100 = .ok (.iaload, 1) := by decide +kernel
theorem dX6_does_101 : decode cX6_does 101 = .ok (.aload_n 0, 1) := by decide +kernel
theorem dX6_does_102 : decode cX6_does 102 = .ok (.getfield 66, 3) := by decide +kernel
theorem dX6_does_105 : decode cX6_does 105 = .ok (.iconst 1, 1) := by decide +kernel
theorem dX6_does_106 : decode cX6_does 106 = .ok (.iaload, 1) := by decide +kernel
theorem dX6_does_107 : decode cX6_does 107 = .ok (.aload_n 0, 1) := by decide +kernel
theorem dX6_does_108 : decode cX6_does 108 = .ok (.getfield 66, 3) := by decide +kernel
theorem dX6_does_111 : decode cX6_does 111 = .ok (.iconst 2, 1) := by decide +kernel
theorem dX6_does_112 : decode cX6_does 112 = .ok (.iaload, 1) := by decide +kernel
theorem dX6_does_113 : decode cX6_does 113 = .ok (.invokevirtual 134, 3) := by decide +kernel
theorem dX6_does_116 : decode cX6_does 116 = .ok (.goto 27, 3) := by decide +kernel
theorem dX6_does_119 : decode cX6_does 119 = .ok (.aload_n 0, 1) := by decide +kernel
theorem dX6_does_120 : decode cX6_does 120 = .ok (.aload_n 0, 1) := by decide +kernel
theorem dX6_does_121 : decode cX6_does 121 = .ok (.getfield 66, 3) := by decide +kernel
theorem dX6_does_124 : decode cX6_does 124 = .ok (.iconst 0, 1) := by decide +kernel
theorem dX6_does_125 : decode cX6_does 125 = .ok (.iaload, 1) := by decide +kernel
theorem dX6_does_126 : decode cX6_does 126 = .ok (.aload_n 0, 1) := by decide +kernel
theorem dX6_does_127 : decode cX6_does 127 = .ok (.getfield 66, 3) := by decide +kernel
theorem dX6_does_130 : decode cX6_does 130 = .ok (.iconst 1, 1) := by decide +kernel
theorem dX6_does_131 : decode cX6_does 131 = .ok (.iaload, 1) := by decide +kernel
theorem dX6_does_132 : decode cX6_does 132 = .ok (.ifCond .eq 7, 3) := by decide +kernel
theorem dX6_does_135 : decode cX6_does 135 = .ok (.iconst 1, 1) := by decide +kernel
theorem dX6_does_136 : decode cX6_does 136 = .ok (.goto 4, 3) := by decide +kernel
theorem dX6_does_139 : decode cX6_does 139 = .ok (.iconst 0, 1) := by decide +kernel
theorem dX6_does_140 : decode cX6_does 140 = .ok (.invokevirtual 138, 3) := by decide +kernel
theorem dX6_does_143 : decode cX6_does 143 = .ok (.ireturn, 1) := by decide +kernel
theorem dX6_perform_0 : decode cX6_perform 0 = .ok (.aload_n 0, 1) := by decide +kernel
theorem dX6_perform_1 : decode cX6_perform 1 = .ok (.invokevirtual 120, 3) := by decide +kernel
theorem dX6_perform_4 : decode cX6_perform 4 = .ok (.aload_n 0, 1) := by decide +kernel
theorem dX6_perform_5 : decode cX6_perform 5 = .ok (.iconst 0, 1) := by decide +kernel
theorem dX6_perform_6 : decode cX6_perform 6 = .ok (.putfield 72, 3) := by decide +kernel
theorem dX6_perform_9 : decode cX6_perform 9 = .ok (.aload_n 0, 1) := by decide +kernel
theorem dX6_perform_10 : decode cX6_perform 10 = .ok (.iconst 0, 1) := by decide +kernel
theorem dX6_perform_11 : decode cX6_perform 11 = .ok (.putfield 81, 3) := by decide +kernel
theorem dX6_perform_14 : decode cX6_perform 14 = .ok (.aload_n 0, 1) := by decide +kernel
theorem dX6_perform_15 : decode cX6_perform 15 = .ok (.invokevirtual 231, 3) := by decide +kernel
theorem dX6_perform_18 : decode cX6_perform 18 = .ok (.istore_n 1, 1) := by decide +kernel
theorem dX6_perform_19 : decode cX6_perform 19 = .ok (.aload_n 0, 1) := by decide +kernel
theorem dX6_perform_20 : decode cX6_perform 20 = .ok (.invokevirtual 224, 3) := by decide +kernel
theorem dX6_perform_23 : decode cX6_perform 23 = .ok (.bipush 59, 2) := by decide +kernel
theorem dX6_perform_25 : decode cX6_perform 25 = .ok (.if_icmp .ne 21, 3) := by decide +kernel
theorem dX6_perform_28 : decode cX6_perform 28 = .ok (.aload_n 0, 1) := by decide +kernel
theorem dX6_perform_29 : decode cX6_perform 29 = .ok (.dup, 1) := by decide +kernel
theorem dX6_perform_30 : decode cX6_perform 30 = .ok (.getfield 72, 3) := by decide +kernel
theorem dX6_perform_33 : decode cX6_perform 33 = .ok (.iconst 1, 1) := by decide +kernel
theorem dX6_perform_34 : decode cX6_perform 34 = .ok (.iadd, 1) := by decide +kernel
theorem dX6_perform_35 : decode cX6_perform 35 = .ok (.putfield 72, 3) := by decide +kernel
theorem dX6_perform_38 : decode cX6_perform 38 = .ok (.aload_n 0, 1) := by decide +kernel
theorem dX6_perform_39 : decode cX6_perform 39 = .ok (.invokevirtual 231, 3) := by decide +kernel
theorem dX6_perform_42 : decode cX6_perform 42 = .ok (.istore_n 1, 1) := by decide +kernel
theorem dX6_perform_43 : decode cX6_perform 43 = .ok (.goto (-24), 3) := by decide +kernel
theorem dX6_perform_46 : decode cX6_perform 46 = .ok (.aload_n 0, 1) := by decide +kernel
theorem dX6_perform_47 : decode cX6_perform 47 = .ok (.getfield 81, 3) := by decide +kernel
theorem dX6_perform_50 : decode cX6_perform 50 = .ok (.ifCond .ne 14, 3) := by decide +kernel
theorem dX6_perform_53 : decode cX6_perform 53 = .ok (.aload_n 0, 1) := by decide +kernel
theorem dX6_perform_54 : decode cX6_perform 54 = .ok (.getfield 72, 3) := by decide +kernel
theorem dX6_perform_57 : decode cX6_perform 57 = .ok (.aload_n 0, 1) := by decide +kernel
theorem dX6_perform_58 : decode cX6_perform 58 = .ok (.getfield 69, 3) := by decide +kernel
theorem dX6_perform_61 : decode cX6_perform 61 = .ok (.if_icmp .ge 16, 3) := by decide +kernel
theorem dX6_perform_64 : decode cX6_perform 64 = .ok (.aload_n 0, 1) := by decide +kernel
theorem dX6_perform_65 : decode cX6_perform 65 = .ok (.iconst 0, 1) := by decide +kernel
theorem dX6_perform_66 : decode cX6_perform 66 = .ok (.putfield 69, 3) := by decide +kernel
theorem dX6_perform_69 : decode cX6_perform 69 = .ok (.bipush (-100), 2) := by decide +kernel
theorem dX6_perform_71 : decode cX6_perform 71 = .ok (.aload_n 0, 1) := by decide +kernel
theorem dX6_perform_72 : decode cX6_perform 72 = .ok (.getfield 72, 3) := by decide +kernel
theorem dX6_perform_75 : decode cX6_perform 75 = .ok (.isub, 1) := by decide +kernel
theorem dX6_perform_76 : decode cX6_perform 76 = .ok (.ireturn, 1) := by decide +kernel
theorem dX6_perform_77 : decode cX6_perform 77 = .ok (.aload_n 0, 1) := by decide +kernel
theorem dX6_perform_78 : decode cX6_perform 78 = .ok (.iconst 0, 1) := by decide +kernel
theorem dX6_perform_79 : decode cX6_perform 79 = .ok (.putfield 72, 3) := by decide +kernel
theorem dX6_perform_82 : decode cX6_perform 82 = .ok (.iconst 0, 1) := by decide +kernel
theorem dX6_perform_83 : decode cX6_perform 83 = .ok (.istore_n 2, 1) := by decide +kernel
theorem dX6_perform_84 : decode cX6_perform 84 = .ok (.aload_n 0, 1) := by decide +kernel
theorem dX6_perform_85 : decode cX6_perform 85 = .ok (.getfield 72, 3) := by decide +kernel
theorem dX6_perform_88 : decode cX6_perform 88 = .ok (.aload_n 0, 1) := by decide +kernel
theorem dX6_perform_89 : decode cX6_perform 89 = .ok (.getfield 69, 3) := by decide +kernel
theorem dX6_perform_92 : decode cX6_perform 92 = .ok (.if_icmp .ge 78, 3) := by decide +kernel
theorem dX6_perform_95 : decode cX6_perform 95 = .ok (.iload_n 2, 1) := by decide +kernel
theorem dX6_perform_96 : decode cX6_perform 96 = .ok (.ifCond .le 13, 3) := by decide +kernel
theorem dX6_perform_99 : decode cX6_perform 99 = .ok (.aload_n 0, 1) := by decide +kernel
theorem dX6_perform_100 : decode cX6_perform 100 = .ok (.dup, 1) := by decide +kernel
theorem dX6_perform_101 : decode cX6_perform 101 = .ok (.getfield 72, 3) := by decide +kernel
theorem dX6_perform_104 : decode cX6_perform 104 = .ok (.iconst 1, 1) := by decide +kernel
theorem dX6_perform_105 : decode cX6_perform 105 = .ok (.iadd, 1) := by decide +kernel
theorem dX6_perform_106 : decode cX6_perform 106 = .ok (.putfield 72, 3) := by decide +kernel
theorem dX6_perform_109 : decode cX6_perform 109 = .ok (.aload_n 0, 1) := by decide +kernel
theorem dX6_perform_110 : decode cX6_perform 110 = .ok (.invokevirtual 231, 3) := by decide +kernel
theorem dX6_perform_113 : decode cX6_perform 113 = .ok (.istore_n 1, 1) := by decide +kernel
theorem dX6_perform_114 : decode cX6_perform 114 = .ok (.aload_n 0, 1) := by decide +kernel
theorem dX6_perform_115 : decode cX6_perform 115 = .ok (.iload_n 1, 1) := by decide +kernel
theorem dX6_perform_116 : decode cX6_perform 116 = .ok (.invokevirtual 234, 3) := by decide +kernel
theorem dX6_perform_119 : decode cX6_perform 119 = .ok (.istore_n 3, 1) := by decide +kernel
theorem dX6_perform_120 : decode cX6_perform 120 = .ok (.aload_n 0, 1) := by decide +kernel
theorem dX6_perform_121 : decode cX6_perform 121 = .ok (.getfield 3, 3) := by decide +kernel
theorem dX6_perform_124 : decode cX6_perform 124 = .ok (.ifCond .eq 40, 3) := by decide +kernel
theorem dX6_perform_127 : decode cX6_perform 127 = .ok (.aload_n 0, 1) := by decide +kernel
theorem dX6_perform_128 : decode cX6_perform 128 = .ok (.getfield 17, 3) := by decide +kernel
theorem dX6_perform_131 : decode cX6_perform 131 = .ok (.iconst 0, 1) := by decide +kernel
theorem dX6_perform_132 : decode cX6_perform 132 = .ok (.aload_n 0, 1) := by decide +kernel
theorem dX6_perform_133 : decode cX6_perform 133 = .ok (.getfield 13, 3) := by decide +kernel
theorem dX6_perform_136 : decode cX6_perform 136 = .ok (.iconst 0, 1) := by decide +kernel
theorem dX6_perform_137 : decode cX6_perform 137 = .ok (.invokestatic 84, 3) := by decide +kernel
theorem dX6_perform_140 : decode cX6_perform 140 = .ok (.aload_n 0, 1) := by decide +kernel
theorem dX6_perform_141 : decode cX6_perform 141 = .ok (.iload_n 2, 1) := by decide +kernel
theorem dX6_perform_142 : decode cX6_perform 142 = .ok (.putfield 75, 3) := by decide +kernel
theorem dX6_perform_145 : decode cX6_perform 145 = .ok (.aload_n 0, 1) := by decide +kernel
theorem dX6_perform_146 : decode cX6_perform 146 = .ok (.aload_n 0, 1) := by decide +kernel
theorem dX6_perform_147 : decode cX6_perform 147 = .ok (.getfield 3, 3) := by decide +kernel
theorem dX6_perform_150 : decode cX6_perform 150 = .ok (.putfield 78, 3) := by decide +kernel
theorem dX6_perform_153 : decode cX6_perform 153 = .ok (.aload_n 0, 1) := by decide +kernel
theorem dX6_perform_154 : decode cX6_perform 154 = .ok (.iconst 0, 1) := by decide +kernel
theorem dX6_perform_155 : decode cX6_perform 155 = .ok (.putfield 69, 3) := by decide +kernel
theorem dX6_perform_158 : decode cX6_perform 158 = .ok (.aload_n 0, 1) := by decide +kernel
theorem dX6_perform_159 : decode cX6_perform 159 = .ok (.iconst 1, 1) := by decide +kernel
theorem dX6_perform_160 : decode cX6_perform 160 = .ok (.invokevirtual 99, 3) := by decide +kernel
theorem dX6_perform_163 : decode cX6_perform 163 = .ok (.ireturn, 1) := by decide +kernel
theorem dX6_perform_164 : decode cX6_perform 164 = .ok (.iinc 2 1, 3) := by decide +kernel
theorem dX6_perform_167 : decode cX6_perform 167 = .ok (.goto (-83), 3) := by decide +kernel
theorem dX6_perform_170 : decode cX6_perform 170 = .ok (.aload_n 0, 1) := by decide +kernel
theorem dX6_perform_171 : decode cX6_perform 171 = .ok (.iconst 0, 1) := by decide +kernel
theorem dX6_perform_172 : decode cX6_perform 172 = .ok (.putfield 69, 3) := by decide +kernel
theorem dX6_perform_175 : decode cX6_perform 175 = .ok (.aload_n 0, 1) := by decide +kernel
theorem dX6_perform_176 : decode cX6_perform 176 = .ok (.iload_n 2, 1) := by decide +kernel
theorem dX6_perform_177 : decode cX6_perform 177 = .ok (.invokevirtual 127, 3) := by decide +kernel
theorem dX6_perform_180 : decode cX6_perform 180 = .ok (.ireturn, 1) := by decide +kernel
theorem dX6_report_0 : decode cX6_report 0 = .ok (.aload_n 0, 1) := by decide +kernel
theorem dX6_report_1 : decode cX6_report 1 = .ok (.iconst 0, 1) := by decide +kernel
theorem dX6_report_2 : decode cX6_report 2 = .ok (.putfield 3, 3) := by decide +kernel
theorem dX6_report_5 : decode cX6_report 5 = .ok (.aload_n 0, 1) := by decide +kernel
theorem dX6_report_6 : decode cX6_report 6 = .ok (.getfield 75, 3) := by decide +kernel
theorem dX6_report_9 : decode cX6_report 9 = .ok (.ifCond .lt 12, 3) := by decide +kernel
theorem dX6_report_12 : decode cX6_report 12 = .ok (.iload_n 1, 1) := by decide +kernel
theorem dX6_report_13 : decode cX6_report 13 = .ok (.iconst 0, 1) := by decide +kernel
theorem dX6_report_14 : decode cX6_report 14 = .ok (.iconst 1, 1) := by decide +kernel
theorem dX6_report_15 : decode cX6_report 15 = .ok (.invokestatic 88, 3) := by decide +kernel
theorem dX6_report_18 : decode cX6_report 18 = .ok (.ifCond .ne 9, 3) := by decide +kernel
theorem dX6_report_21 : decode cX6_report 21 = .ok (.aload_n 0, 1) := by decide +kernel
theorem dX6_report_22 : decode cX6_report 22 = .ok (.iconst 1, 1) := by decide +kernel
theorem dX6_report_23 : decode cX6_report 23 = .ok (.invokevirtual 99, 3) := by decide +kernel
theorem dX6_report_26 : decode cX6_report 26 = .ok (.ireturn, 1) := by decide +kernel
theorem dX6_report_27 : decode cX6_report 27 = .ok (.iload_n 2, 1) := by decide +kernel
theorem dX6_report_28 : decode cX6_report 28 = .ok (.iconst 0, 1) := by decide +kernel
theorem dX6_report_29 : decode cX6_report 29 = .ok (.iconst 1, 1) := by decide +kernel
theorem dX6_report_30 : decode cX6_report 30 = .ok (.invokestatic 88, 3) := by decide +kernel
theorem dX6_report_33 : decode cX6_report 33 = .ok (.ifCond .ne 9, 3) := by decide +kernel
theorem dX6_report_36 : decode cX6_report 36 = .ok (.aload_n 0, 1) := by decide +kernel
theorem dX6_report_37 : decode cX6_report 37 = .ok (.iconst 2, 1) := by decide +kernel
theorem dX6_report_38 : decode cX6_report 38 = .ok (.invokevirtual 99, 3) := by decide +kernel
theorem dX6_report_41 : decode cX6_report 41 = .ok (.ireturn, 1) := by decide +kernel
theorem dX6_report_42 : decode cX6_report 42 = .ok (.iload_n 2, 1) := by decide +kernel
theorem dX6_report_43 : decode cX6_report 43 = .ok (.ifCond .ne 9, 3) := by decide +kernel
theorem dX6_report_46 : decode cX6_report 46 = .ok (.iconst 1, 1) := by decide +kernel
theorem dX6_report_47 : decode cX6_report 47 = .ok (.iload_n 1, 1) := by decide +kernel
theorem dX6_report_48 : decode cX6_report 48 = .ok (.iadd, 1) := by decide +kernel
theorem dX6_report_49 : decode cX6_report 49 = .ok (.goto 18, 3) := by decide +kernel
theorem dX6_report_52 : decode cX6_report 52 = .ok (.iload_n 1, 1) := by decide +kernel
theorem dX6_report_53 : decode cX6_report 53 = .ok (.ifCond .ne 10, 3) := by decide +kernel
theorem dX6_report_56 : decode cX6_report 56 = .ok (.aload_n 0, 1) := by decide +kernel
theorem dX6_report_57 : decode cX6_report 57 = .ok (.getfield 75, 3) := by decide +kernel
theorem dX6_report_60 : decode cX6_report 60 = .ok (.goto 7, 3) := by decide +kernel
theorem dX6_report_63 : decode cX6_report 63 = .ok (.aload_n 0, 1) := by decide +kernel
theorem dX6_report_64 : decode cX6_report 64 = .ok (.getfield 78, 3) := by decide +kernel
theorem dX6_report_67 : decode cX6_report 67 = .ok (.ireturn, 1) := by decide +kernel
theorem dX6_undo_0 : decode cX6_undo 0 = .ok (.aload_n 0, 1) := by decide +kernel
theorem dX6_undo_1 : decode cX6_undo 1 = .ok (.iconst 0, 1) := by decide +kernel
theorem dX6_undo_2 : decode cX6_undo 2 = .ok (.putfield 3, 3) := by decide +kernel
theorem dX6_undo_5 : decode cX6_undo 5 = .ok (.aload_n 0, 1) := by decide +kernel
theorem dX6_undo_6 : decode cX6_undo 6 = .ok (.getfield 26, 3) := by decide +kernel
theorem dX6_undo_9 : decode cX6_undo 9 = .ok (.ifCond .ne 9, 3) := by decide +kernel
theorem dX6_undo_12 : decode cX6_undo 12 = .ok (.aload_n 0, 1) := by decide +kernel
theorem dX6_undo_13 : decode cX6_undo 13 = .ok (.iconst 1, 1) := by decide +kernel
theorem dX6_undo_14 : decode cX6_undo 14 = .ok (.invokevirtual 99, 3) := by decide +kernel
theorem dX6_undo_17 : decode cX6_undo 17 = .ok (.ireturn, 1) := by decide +kernel
theorem dX6_undo_18 : decode cX6_undo 18 = .ok (.aload_n 0, 1) := by decide +kernel
theorem dX6_undo_19 : decode cX6_undo 19 = .ok (.dup, 1) := by decide +kernel
theorem dX6_undo_20 : decode cX6_undo 20 = .ok (.getfield 26, 3) := by decide +kernel
theorem dX6_undo_23 : decode cX6_undo 23 = .ok (.iconst 1, 1) := by decide +kernel
theorem dX6_undo_24 : decode cX6_undo 24 = .ok (.isub, 1) := by decide +kernel
theorem dX6_undo_25 : decode cX6_undo 25 = .ok (.putfield 26, 3) := by decide +kernel
theorem dX6_undo_28 : decode cX6_undo 28 = .ok (.aload_n 0, 1) := by decide +kernel
theorem dX6_undo_29 : decode cX6_undo 29 = .ok (.getfield 23, 3) := by decide +kernel
theorem dX6_undo_32 : decode cX6_undo 32 = .ok (.sipush 166, 3) := by decide +kernel
theorem dX6_undo_35 : decode cX6_undo 35 = .ok (.aload_n 0, 1) := by decide +kernel
theorem dX6_undo_36 : decode cX6_undo 36 = .ok (.getfield 26, 3) := by decide +kernel
theorem dX6_undo_39 : decode cX6_undo 39 = .ok (.imul, 1) := by decide +kernel
theorem dX6_undo_40 : decode cX6_undo 40 = .ok (.aload_n 0, 1) := by decide +kernel
theorem dX6_undo_41 : decode cX6_undo 41 = .ok (.getfield 13, 3) := by decide +kernel
theorem dX6_undo_44 : decode cX6_undo 44 = .ok (.iconst 0, 1) := by decide +kernel
theorem dX6_undo_45 : decode cX6_undo 45 = .ok (.invokestatic 84, 3) := by decide +kernel
theorem dX6_undo_48 : decode cX6_undo 48 = .ok (.aload_n 0, 1) := by decide +kernel
theorem dX6_undo_49 : decode cX6_undo 49 = .ok (.getfield 26, 3) := by decide +kernel
theorem dX6_undo_52 : decode cX6_undo 52 = .ok (.ireturn, 1) := by decide +kernel
theorem dX6_save_0 : decode cX6_save 0 = .ok (.aload_n 0, 1) := by decide +kernel
theorem dX6_save_1 : decode cX6_save 1 = .ok (.iconst 0, 1) := by decide +kernel
theorem dX6_save_2 : decode cX6_save 2 = .ok (.putfield 3, 3) := by decide +kernel
theorem dX6_save_5 : decode cX6_save 5 = .ok (.aload_n 0, 1) := by decide +kernel
theorem dX6_save_6 : decode cX6_save 6 = .ok (.getfield 13, 3) := by decide +kernel
theorem dX6_save_9 : decode cX6_save 9 = .ok (.iconst 0, 1) := by decide +kernel
theorem dX6_save_10 : decode cX6_save 10 = .ok (.aload_n 0, 1) := by decide +kernel
theorem dX6_save_11 : decode cX6_save 11 = .ok (.getfield 20, 3) := by decide +kernel
theorem dX6_save_14 : decode cX6_save 14 = .ok (.iconst 0, 1) := by decide +kernel
theorem dX6_save_15 : decode cX6_save 15 = .ok (.invokestatic 84, 3) := by decide +kernel
theorem dX6_save_18 : decode cX6_save 18 = .ok (.aload_n 0, 1) := by decide +kernel
theorem dX6_save_19 : decode cX6_save 19 = .ok (.iconst 1, 1) := by decide +kernel
theorem dX6_save_20 : decode cX6_save 20 = .ok (.putfield 29, 3) := by decide +kernel
theorem dX6_save_23 : decode cX6_save 23 = .ok (.aload_n 0, 1) := by decide +kernel
theorem dX6_save_24 : decode cX6_save 24 = .ok (.iconst 1, 1) := by decide +kernel
theorem dX6_save_25 : decode cX6_save 25 = .ok (.invokevirtual 144, 3) := by decide +kernel
theorem dX6_save_28 : decode cX6_save 28 = .ok (.ireturn, 1) := by decide +kernel
theorem dX6_restore_0 : decode cX6_restore 0 = .ok (.aload_n 0, 1) := by decide +kernel
theorem dX6_restore_1 : decode cX6_restore 1 = .ok (.iconst 0, 1) := by decide +kernel
theorem dX6_restore_2 : decode cX6_restore 2 = .ok (.putfield 3, 3) := by decide +kernel
theorem dX6_restore_5 : decode cX6_restore 5 = .ok (.aload_n 0, 1) := by decide +kernel
theorem dX6_restore_6 : decode cX6_restore 6 = .ok (.getfield 29, 3) := by decide +kernel
theorem dX6_restore_9 : decode cX6_restore 9 = .ok (.ifCond .ne 9, 3) := by decide +kernel
theorem dX6_restore_12 : decode cX6_restore 12 = .ok (.aload_n 0, 1) := by decide +kernel
theorem dX6_restore_13 : decode cX6_restore 13 = .ok (.iconst 1, 1) := by decide +kernel
theorem dX6_restore_14 : decode cX6_restore 14 = .ok (.invokevirtual 99, 3) := by decide +kernel
theorem dX6_restore_17 : decode cX6_restore 17 = .ok (.ireturn, 1) := by decide +kernel
theorem dX6_restore_18 : decode cX6_restore 18 = .ok (.aload_n 0, 1) := by decide +kernel
theorem dX6_restore_19 : decode cX6_restore 19 = .ok (.getfield 20, 3) := by decide +kernel
theorem dX6_restore_22 : decode cX6_restore 22 = .ok (.iconst 0, 1) := by decide +kernel
theorem dX6_restore_23 : decode cX6_restore 23 = .ok (.aload_n 0, 1) := by decide +kernel
theorem dX6_restore_24 : decode cX6_restore 24 = .ok (.getfield 13, 3) := by decide +kernel
theorem dX6_restore_27 : decode cX6_restore 27 = .ok (.iconst 0, 1) := by decide +kernel
theorem dX6_restore_28 : decode cX6_restore 28 = .ok (.invokestatic 84, 3) := by decide +kernel
theorem dX6_restore_31 : decode cX6_restore 31 = .ok (.aload_n 0, 1) := by decide +kernel
theorem dX6_restore_32 : decode cX6_restore 32 = .ok (.iconst 0, 1) := by decide +kernel
theorem dX6_restore_33 : decode cX6_restore 33 = .ok (.putfield 26, 3) := by decide +kernel
theorem dX6_restore_36 : decode cX6_restore 36 = .ok (.aload_n 0, 1) := by decide +kernel
theorem dX6_restore_37 : decode cX6_restore 37 = .ok (.iconst 1, 1) := by decide +kernel
theorem dX6_restore_38 : decode cX6_restore 38 = .ok (.invokevirtual 144, 3) := by decide +kernel
theorem dX6_restore_41 : decode cX6_restore 41 = .ok (.ireturn, 1) := by decide +kernel
