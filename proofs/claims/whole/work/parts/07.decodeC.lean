theorem dX0_isFull_0 : decode cX0_isFull 0 = .ok (.aload_n 0, 1) := by decide +kernel
theorem dX0_isFull_1 : decode cX0_isFull 1 = .ok (.getfield 25, 3) := by decide +kernel
theorem dX0_isFull_4 : decode cX0_isFull 4 = .ok (.bipush 80, 2) := by decide +kernel
theorem dX0_isFull_6 : decode cX0_isFull 6 = .ok (.if_icmp .lt 7, 3) := by decide +kernel
theorem dX0_isFull_9 : decode cX0_isFull 9 = .ok (.iconst 1, 1) := by decide +kernel
theorem dX0_isFull_10 : decode cX0_isFull 10 = .ok (.goto 4, 3) := by decide +kernel
theorem dX0_isFull_13 : decode cX0_isFull 13 = .ok (.iconst 0, 1) := by decide +kernel
theorem dX0_isFull_14 : decode cX0_isFull 14 = .ok (.ireturn, 1) := by decide +kernel
theorem dX0_append_0 : decode cX0_append 0 = .ok (.aload_n 0, 1) := by decide +kernel
theorem dX0_append_1 : decode cX0_append 1 = .ok (.getfield 25, 3) := by decide +kernel
theorem dX0_append_4 : decode cX0_append 4 = .ok (.ifCond .lt 32, 3) := by decide +kernel
theorem dX0_append_7 : decode cX0_append 7 = .ok (.aload_n 0, 1) := by decide +kernel
theorem dX0_append_8 : decode cX0_append 8 = .ok (.getfield 25, 3) := by decide +kernel
theorem dX0_append_11 : decode cX0_append 11 = .ok (.bipush 80, 2) := by decide +kernel
theorem dX0_append_13 : decode cX0_append 13 = .ok (.if_icmp .ge 23, 3) := by decide +kernel
theorem dX0_append_16 : decode cX0_append 16 = .ok (.aload_n 0, 1) := by decide +kernel
theorem dX0_append_17 : decode cX0_append 17 = .ok (.getfield 9, 3) := by decide +kernel
theorem dX0_append_20 : decode cX0_append 20 = .ok (.aload_n 0, 1) := by decide +kernel
theorem dX0_append_21 : decode cX0_append 21 = .ok (.getfield 25, 3) := by decide +kernel
theorem dX0_append_24 : decode cX0_append 24 = .ok (.iload_n 1, 1) := by decide +kernel
theorem dX0_append_25 : decode cX0_append 25 = .ok (.castore, 1) := by decide +kernel
theorem dX0_append_26 : decode cX0_append 26 = .ok (.aload_n 0, 1) := by decide +kernel
theorem dX0_append_27 : decode cX0_append 27 = .ok (.dup, 1) := by decide +kernel
theorem dX0_append_28 : decode cX0_append 28 = .ok (.getfield 25, 3) := by decide +kernel
theorem dX0_append_31 : decode cX0_append 31 = .ok (.iconst 1, 1) := by decide +kernel
theorem dX0_append_32 : decode cX0_append 32 = .ok (.iadd, 1) := by decide +kernel
theorem dX0_append_33 : decode cX0_append 33 = .ok (.putfield 25, 3) := by decide +kernel
theorem dX0_append_36 : decode cX0_append 36 = .ok (.aload_n 0, 1) := by decide +kernel
theorem dX0_append_37 : decode cX0_append 37 = .ok (.getfield 25, 3) := by decide +kernel
theorem dX0_append_40 : decode cX0_append 40 = .ok (.ireturn, 1) := by decide +kernel
theorem dX0_parseAndEmpty_0 : decode cX0_parseAndEmpty 0 = .ok (.aload_n 0, 1) := by decide +kernel
theorem dX0_parseAndEmpty_1 : decode cX0_parseAndEmpty 1 = .ok (.getfield 25, 3) := by decide +kernel
theorem dX0_parseAndEmpty_4 : decode cX0_parseAndEmpty 4 = .ok (.istore_n 1, 1) := by decide +kernel
theorem dX0_parseAndEmpty_5 : decode cX0_parseAndEmpty 5 = .ok (.aload_n 0, 1) := by decide +kernel
theorem dX0_parseAndEmpty_6 : decode cX0_parseAndEmpty 6 = .ok (.iconst 0, 1) := by decide +kernel
theorem dX0_parseAndEmpty_7 : decode cX0_parseAndEmpty 7 = .ok (.putfield 25, 3) := by decide +kernel
theorem dX0_parseAndEmpty_10 : decode cX0_parseAndEmpty 10 = .ok (.aload_n 0, 1) := by decide +kernel
theorem dX0_parseAndEmpty_11 : decode cX0_parseAndEmpty 11 = .ok (.iconst 0, 1) := by decide +kernel
theorem dX0_parseAndEmpty_12 : decode cX0_parseAndEmpty 12 = .ok (.putfield 29, 3) := by decide +kernel
theorem dX0_parseAndEmpty_15 : decode cX0_parseAndEmpty 15 = .ok (.aload_n 0, 1) := by decide +kernel
theorem dX0_parseAndEmpty_16 : decode cX0_parseAndEmpty 16 = .ok (.iconst 0, 1) := by decide +kernel
theorem dX0_parseAndEmpty_17 : decode cX0_parseAndEmpty 17 = .ok (.putfield 32, 3) := by decide +kernel
theorem dX0_parseAndEmpty_20 : decode cX0_parseAndEmpty 20 = .ok (.aload_n 0, 1) := by decide +kernel
theorem dX0_parseAndEmpty_21 : decode cX0_parseAndEmpty 21 = .ok (.iconst 1, 1) := by decide +kernel
theorem dX0_parseAndEmpty_22 : decode cX0_parseAndEmpty 22 = .ok (.putfield 35, 3) := by decide +kernel
theorem dX0_parseAndEmpty_25 : decode cX0_parseAndEmpty 25 = .ok (.iconst 0, 1) := by decide +kernel
theorem dX0_parseAndEmpty_26 : decode cX0_parseAndEmpty 26 = .ok (.istore_n 2, 1) := by decide +kernel
theorem dX0_parseAndEmpty_27 : decode cX0_parseAndEmpty 27 = .ok (.iload_n 2, 1) := by decide +kernel
theorem dX0_parseAndEmpty_28 : decode cX0_parseAndEmpty 28 = .ok (.iload_n 1, 1) := by decide +kernel
theorem dX0_parseAndEmpty_29 : decode cX0_parseAndEmpty 29 = .ok (.if_icmp .ge 30, 3) := by decide +kernel
theorem dX0_parseAndEmpty_32 : decode cX0_parseAndEmpty 32 = .ok (.iload_n 2, 1) := by decide +kernel
theorem dX0_parseAndEmpty_33 : decode cX0_parseAndEmpty 33 = .ok (.bipush 80, 2) := by decide +kernel
theorem dX0_parseAndEmpty_35 : decode cX0_parseAndEmpty 35 = .ok (.if_icmp .ge 24, 3) := by decide +kernel
theorem dX0_parseAndEmpty_38 : decode cX0_parseAndEmpty 38 = .ok (.aload_n 0, 1) := by decide +kernel
theorem dX0_parseAndEmpty_39 : decode cX0_parseAndEmpty 39 = .ok (.aload_n 0, 1) := by decide +kernel
theorem dX0_parseAndEmpty_40 : decode cX0_parseAndEmpty 40 = .ok (.getfield 9, 3) := by decide +kernel
theorem dX0_parseAndEmpty_43 : decode cX0_parseAndEmpty 43 = .ok (.iload_n 2, 1) := by decide +kernel
theorem dX0_parseAndEmpty_44 : decode cX0_parseAndEmpty 44 = .ok (.caload, 1) := by decide +kernel
theorem dX0_parseAndEmpty_45 : decode cX0_parseAndEmpty 45 = .ok (.invokevirtual 39, 3) := by decide +kernel
theorem dX0_parseAndEmpty_48 : decode cX0_parseAndEmpty 48 = .ok (.ifCond .ne 5, 3) := by decide +kernel
theorem dX0_parseAndEmpty_51 : decode cX0_parseAndEmpty 51 = .ok (.iload_n 2, 1) := by decide +kernel
theorem dX0_parseAndEmpty_52 : decode cX0_parseAndEmpty 52 = .ok (.ireturn, 1) := by decide +kernel
theorem dX0_parseAndEmpty_53 : decode cX0_parseAndEmpty 53 = .ok (.iinc 2 1, 3) := by decide +kernel
theorem dX0_parseAndEmpty_56 : decode cX0_parseAndEmpty 56 = .ok (.goto (-29), 3) := by decide +kernel
theorem dX0_parseAndEmpty_59 : decode cX0_parseAndEmpty 59 = .ok (.aload_n 0, 1) := by decide +kernel
theorem dX0_parseAndEmpty_60 : decode cX0_parseAndEmpty 60 = .ok (.invokevirtual 43, 3) := by decide +kernel
theorem dX0_parseAndEmpty_63 : decode cX0_parseAndEmpty 63 = .ok (.ifCond .eq 7, 3) := by decide +kernel
theorem dX0_parseAndEmpty_66 : decode cX0_parseAndEmpty 66 = .ok (.iconst (-1), 1) := by decide +kernel
theorem dX0_parseAndEmpty_67 : decode cX0_parseAndEmpty 67 = .ok (.goto 4, 3) := by decide +kernel
theorem dX0_parseAndEmpty_70 : decode cX0_parseAndEmpty 70 = .ok (.iload_n 1, 1) := by decide +kernel
theorem dX0_parseAndEmpty_71 : decode cX0_parseAndEmpty 71 = .ok (.ireturn, 1) := by decide +kernel
theorem dX0_accepts_0 : decode cX0_accepts 0 = .ok (.aload_n 0, 1) := by decide +kernel
theorem dX0_accepts_1 : decode cX0_accepts 1 = .ok (.getfield 35, 3) := by decide +kernel
theorem dX0_accepts_4 : decode cX0_accepts 4 = .ok (.ifCond .eq 9, 3) := by decide +kernel
theorem dX0_accepts_7 : decode cX0_accepts 7 = .ok (.aload_n 0, 1) := by decide +kernel
theorem dX0_accepts_8 : decode cX0_accepts 8 = .ok (.iload_n 1, 1) := by decide +kernel
theorem dX0_accepts_9 : decode cX0_accepts 9 = .ok (.invokevirtual 47, 3) := by decide +kernel
theorem dX0_accepts_12 : decode cX0_accepts 12 = .ok (.ireturn, 1) := by decide +kernel
theorem dX0_accepts_13 : decode cX0_accepts 13 = .ok (.iload_n 1, 1) := by decide +kernel
theorem dX0_accepts_14 : decode cX0_accepts 14 = .ok (.bipush 48, 2) := by decide +kernel
theorem dX0_accepts_16 : decode cX0_accepts 16 = .ok (.if_icmp .lt 18, 3) := by decide +kernel
theorem dX0_accepts_19 : decode cX0_accepts 19 = .ok (.iload_n 1, 1) := by decide +kernel
theorem dX0_accepts_20 : decode cX0_accepts 20 = .ok (.bipush 57, 2) := by decide +kernel
theorem dX0_accepts_22 : decode cX0_accepts 22 = .ok (.if_icmp .gt 12, 3) := by decide +kernel
theorem dX0_accepts_25 : decode cX0_accepts 25 = .ok (.aload_n 0, 1) := by decide +kernel
theorem dX0_accepts_26 : decode cX0_accepts 26 = .ok (.iload_n 1, 1) := by decide +kernel
theorem dX0_accepts_27 : decode cX0_accepts 27 = .ok (.bipush 48, 2) := by decide +kernel
theorem dX0_accepts_29 : decode cX0_accepts 29 = .ok (.isub, 1) := by decide +kernel
theorem dX0_accepts_30 : decode cX0_accepts 30 = .ok (.invokevirtual 50, 3) := by decide +kernel
theorem dX0_accepts_33 : decode cX0_accepts 33 = .ok (.ireturn, 1) := by decide +kernel
theorem dX0_accepts_34 : decode cX0_accepts 34 = .ok (.iload_n 1, 1) := by decide +kernel
theorem dX0_accepts_35 : decode cX0_accepts 35 = .ok (.bipush 44, 2) := by decide +kernel
theorem dX0_accepts_37 : decode cX0_accepts 37 = .ok (.if_icmp .ne 23, 3) := by decide +kernel
theorem dX0_accepts_40 : decode cX0_accepts 40 = .ok (.aload_n 0, 1) := by decide +kernel
theorem dX0_accepts_41 : decode cX0_accepts 41 = .ok (.getfield 54, 3) := by decide +kernel
theorem dX0_accepts_44 : decode cX0_accepts 44 = .ok (.ifCond .le 16, 3) := by decide +kernel
theorem dX0_accepts_47 : decode cX0_accepts 47 = .ok (.aload_n 0, 1) := by decide +kernel
theorem dX0_accepts_48 : decode cX0_accepts 48 = .ok (.getfield 57, 3) := by decide +kernel
theorem dX0_accepts_51 : decode cX0_accepts 51 = .ok (.ifCond .le 9, 3) := by decide +kernel
theorem dX0_accepts_54 : decode cX0_accepts 54 = .ok (.aload_n 0, 1) := by decide +kernel
theorem dX0_accepts_55 : decode cX0_accepts 55 = .ok (.invokevirtual 60, 3) := by decide +kernel
theorem dX0_accepts_58 : decode cX0_accepts 58 = .ok (.iconst 1, 1) := by decide +kernel
theorem dX0_accepts_59 : decode cX0_accepts 59 = .ok (.ireturn, 1) := by decide +kernel
theorem dX0_accepts_60 : decode cX0_accepts 60 = .ok (.iload_n 1, 1) := by decide +kernel
theorem dX0_accepts_61 : decode cX0_accepts 61 = .ok (.bipush 59, 2) := by decide +kernel
theorem dX0_accepts_63 : decode cX0_accepts 63 = .ok (.if_icmp .ne 17, 3) := by decide +kernel
theorem dX0_accepts_66 : decode cX0_accepts 66 = .ok (.aload_n 0, 1) := by decide +kernel
theorem dX0_accepts_67 : decode cX0_accepts 67 = .ok (.invokevirtual 43, 3) := by decide +kernel
theorem dX0_accepts_70 : decode cX0_accepts 70 = .ok (.ifCond .eq 10, 3) := by decide +kernel
theorem dX0_accepts_73 : decode cX0_accepts 73 = .ok (.aload_n 0, 1) := by decide +kernel
theorem dX0_accepts_74 : decode cX0_accepts 74 = .ok (.iconst 1, 1) := by decide +kernel
theorem dX0_accepts_75 : decode cX0_accepts 75 = .ok (.putfield 35, 3) := by decide +kernel
theorem dX0_accepts_78 : decode cX0_accepts 78 = .ok (.iconst 1, 1) := by decide +kernel
theorem dX0_accepts_79 : decode cX0_accepts 79 = .ok (.ireturn, 1) := by decide +kernel
theorem dX0_accepts_80 : decode cX0_accepts 80 = .ok (.iconst 0, 1) := by decide +kernel
theorem dX0_accepts_81 : decode cX0_accepts 81 = .ok (.ireturn, 1) := by decide +kernel
theorem dX0_isComplete_0 : decode cX0_isComplete 0 = .ok (.aload_n 0, 1) := by decide +kernel
theorem dX0_isComplete_1 : decode cX0_isComplete 1 = .ok (.getfield 35, 3) := by decide +kernel
theorem dX0_isComplete_4 : decode cX0_isComplete 4 = .ok (.ifCond .ne 21, 3) := by decide +kernel
theorem dX0_isComplete_7 : decode cX0_isComplete 7 = .ok (.aload_n 0, 1) := by decide +kernel
theorem dX0_isComplete_8 : decode cX0_isComplete 8 = .ok (.getfield 54, 3) := by decide +kernel
theorem dX0_isComplete_11 : decode cX0_isComplete 11 = .ok (.ifCond .le 14, 3) := by decide +kernel
theorem dX0_isComplete_14 : decode cX0_isComplete 14 = .ok (.aload_n 0, 1) := by decide +kernel
theorem dX0_isComplete_15 : decode cX0_isComplete 15 = .ok (.getfield 57, 3) := by decide +kernel
theorem dX0_isComplete_18 : decode cX0_isComplete 18 = .ok (.ifCond .ne 7, 3) := by decide +kernel
theorem dX0_isComplete_21 : decode cX0_isComplete 21 = .ok (.iconst 1, 1) := by decide +kernel
theorem dX0_isComplete_22 : decode cX0_isComplete 22 = .ok (.goto 4, 3) := by decide +kernel
theorem dX0_isComplete_25 : decode cX0_isComplete 25 = .ok (.iconst 0, 1) := by decide +kernel
theorem dX0_isComplete_26 : decode cX0_isComplete 26 = .ok (.ireturn, 1) := by decide +kernel
theorem dX0_startCommand_0 : decode cX0_startCommand 0 = .ok (.iload_n 1, 1) := by decide +kernel
theorem dX0_startCommand_1 : decode cX0_startCommand 1 = .ok (.invokestatic 63, 3) := by decide +kernel
theorem dX0_startCommand_4 : decode cX0_startCommand 4 = .ok (.istore_n 2, 1) := by decide +kernel
theorem dX0_startCommand_5 : decode cX0_startCommand 5 = .ok (.iload_n 2, 1) := by decide +kernel
theorem dX0_startCommand_6 : decode cX0_startCommand 6 = .ok (.ifCond .eq 19, 3) := by decide +kernel
theorem dX0_startCommand_9 : decode cX0_startCommand 9 = .ok (.aload_n 0, 1) := by decide +kernel
theorem dX0_startCommand_10 : decode cX0_startCommand 10 = .ok (.getfield 29, 3) := by decide +kernel
theorem dX0_startCommand_13 : decode cX0_startCommand 13 = .ok (.ifCond .lt 12, 3) := by decide +kernel
theorem dX0_startCommand_16 : decode cX0_startCommand 16 = .ok (.aload_n 0, 1) := by decide +kernel
theorem dX0_startCommand_17 : decode cX0_startCommand 17 = .ok (.getfield 29, 3) := by decide +kernel
theorem dX0_startCommand_20 : decode cX0_startCommand 20 = .ok (.bipush 80, 2) := by decide +kernel
theorem dX0_startCommand_22 : decode cX0_startCommand 22 = .ok (.if_icmp .lt 5, 3) := by decide +kernel
theorem dX0_startCommand_25 : decode cX0_startCommand 25 = .ok (.iconst 0, 1) := by decide +kernel
theorem dX0_startCommand_26 : decode cX0_startCommand 26 = .ok (.ireturn, 1) := by decide +kernel
theorem dX0_startCommand_27 : decode cX0_startCommand 27 = .ok (.aload_n 0, 1) := by decide +kernel
theorem dX0_startCommand_28 : decode cX0_startCommand 28 = .ok (.getfield 15, 3) := by decide +kernel
theorem dX0_startCommand_31 : decode cX0_startCommand 31 = .ok (.aload_n 0, 1) := by decide +kernel
theorem dX0_startCommand_32 : decode cX0_startCommand 32 = .ok (.getfield 29, 3) := by decide +kernel
theorem dX0_startCommand_35 : decode cX0_startCommand 35 = .ok (.iload_n 1, 1) := by decide +kernel
theorem dX0_startCommand_36 : decode cX0_startCommand 36 = .ok (.castore, 1) := by decide +kernel
theorem dX0_startCommand_37 : decode cX0_startCommand 37 = .ok (.aload_n 0, 1) := by decide +kernel
theorem dX0_startCommand_38 : decode cX0_startCommand 38 = .ok (.getfield 18, 3) := by decide +kernel
theorem dX0_startCommand_41 : decode cX0_startCommand 41 = .ok (.aload_n 0, 1) := by decide +kernel
theorem dX0_startCommand_42 : decode cX0_startCommand 42 = .ok (.getfield 29, 3) := by decide +kernel
theorem dX0_startCommand_45 : decode cX0_startCommand 45 = .ok (.aload_n 0, 1) := by decide +kernel
theorem dX0_startCommand_46 : decode cX0_startCommand 46 = .ok (.getfield 32, 3) := by decide +kernel
theorem dX0_startCommand_49 : decode cX0_startCommand 49 = .ok (.iastore, 1) := by decide +kernel
theorem dX0_startCommand_50 : decode cX0_startCommand 50 = .ok (.aload_n 0, 1) := by decide +kernel
theorem dX0_startCommand_51 : decode cX0_startCommand 51 = .ok (.dup, 1) := by decide +kernel
theorem dX0_startCommand_52 : decode cX0_startCommand 52 = .ok (.getfield 29, 3) := by decide +kernel
theorem dX0_startCommand_55 : decode cX0_startCommand 55 = .ok (.iconst 1, 1) := by decide +kernel
theorem dX0_startCommand_56 : decode cX0_startCommand 56 = .ok (.iadd, 1) := by decide +kernel
theorem dX0_startCommand_57 : decode cX0_startCommand 57 = .ok (.putfield 29, 3) := by decide +kernel
theorem dX0_startCommand_60 : decode cX0_startCommand 60 = .ok (.aload_n 0, 1) := by decide +kernel
theorem dX0_startCommand_61 : decode cX0_startCommand 61 = .ok (.iconst 0, 1) := by decide +kernel
theorem dX0_startCommand_62 : decode cX0_startCommand 62 = .ok (.putfield 35, 3) := by decide +kernel
theorem dX0_startCommand_65 : decode cX0_startCommand 65 = .ok (.aload_n 0, 1) := by decide +kernel
theorem dX0_startCommand_66 : decode cX0_startCommand 66 = .ok (.iload_n 2, 1) := by decide +kernel
theorem dX0_startCommand_67 : decode cX0_startCommand 67 = .ok (.putfield 57, 3) := by decide +kernel
theorem dX0_startCommand_70 : decode cX0_startCommand 70 = .ok (.aload_n 0, 1) := by decide +kernel
theorem dX0_startCommand_71 : decode cX0_startCommand 71 = .ok (.invokevirtual 60, 3) := by decide +kernel
theorem dX0_startCommand_74 : decode cX0_startCommand 74 = .ok (.iconst 1, 1) := by decide +kernel
theorem dX0_startCommand_75 : decode cX0_startCommand 75 = .ok (.ireturn, 1) := by decide +kernel
theorem dX0_sizeOf_0 : decode cX0_sizeOf 0 = .ok (.iload_n 0, 1) := by decide +kernel
theorem dX0_sizeOf_1 : decode cX0_sizeOf 1 = .ok (.lookupswitch 52 #[(97, 45), (108, 50), (112, 48), (115, 43)], 43) := by decide +kernel
theorem dX0_sizeOf_44 : decode cX0_sizeOf 44 = .ok (.iconst 5, 1) := by decide +kernel
theorem dX0_sizeOf_45 : decode cX0_sizeOf 45 = .ok (.ireturn, 1) := by decide +kernel
theorem dX0_sizeOf_46 : decode cX0_sizeOf 46 = .ok (.bipush 6, 2) := by decide +kernel
theorem dX0_sizeOf_48 : decode cX0_sizeOf 48 = .ok (.ireturn, 1) := by decide +kernel
theorem dX0_sizeOf_49 : decode cX0_sizeOf 49 = .ok (.iconst 3, 1) := by decide +kernel
theorem dX0_sizeOf_50 : decode cX0_sizeOf 50 = .ok (.ireturn, 1) := by decide +kernel
theorem dX0_sizeOf_51 : decode cX0_sizeOf 51 = .ok (.iconst 2, 1) := by decide +kernel
theorem dX0_sizeOf_52 : decode cX0_sizeOf 52 = .ok (.ireturn, 1) := by decide +kernel
theorem dX0_sizeOf_53 : decode cX0_sizeOf 53 = .ok (.iconst 0, 1) := by decide +kernel
theorem dX0_sizeOf_54 : decode cX0_sizeOf 54 = .ok (.ireturn, 1) := by decide +kernel
theorem dX0_startNumber_0 : decode cX0_startNumber 0 = .ok (.aload_n 0, 1) := by decide +kernel
theorem dX0_startNumber_1 : decode cX0_startNumber 1 = .ok (.getfield 32, 3) := by decide +kernel
theorem dX0_startNumber_4 : decode cX0_startNumber 4 = .ok (.ifCond .lt 32, 3) := by decide +kernel
theorem dX0_startNumber_7 : decode cX0_startNumber 7 = .ok (.aload_n 0, 1) := by decide +kernel
theorem dX0_startNumber_8 : decode cX0_startNumber 8 = .ok (.getfield 32, 3) := by decide +kernel
theorem dX0_startNumber_11 : decode cX0_startNumber 11 = .ok (.bipush 80, 2) := by decide +kernel
theorem dX0_startNumber_13 : decode cX0_startNumber 13 = .ok (.if_icmp .ge 23, 3) := by decide +kernel
theorem dX0_startNumber_16 : decode cX0_startNumber 16 = .ok (.aload_n 0, 1) := by decide +kernel
theorem dX0_startNumber_17 : decode cX0_startNumber 17 = .ok (.getfield 22, 3) := by decide +kernel
theorem dX0_startNumber_20 : decode cX0_startNumber 20 = .ok (.aload_n 0, 1) := by decide +kernel
theorem dX0_startNumber_21 : decode cX0_startNumber 21 = .ok (.getfield 32, 3) := by decide +kernel
theorem dX0_startNumber_24 : decode cX0_startNumber 24 = .ok (.iconst 0, 1) := by decide +kernel
theorem dX0_startNumber_25 : decode cX0_startNumber 25 = .ok (.iastore, 1) := by decide +kernel
theorem dX0_startNumber_26 : decode cX0_startNumber 26 = .ok (.aload_n 0, 1) := by decide +kernel
theorem dX0_startNumber_27 : decode cX0_startNumber 27 = .ok (.dup, 1) := by decide +kernel
theorem dX0_startNumber_28 : decode cX0_startNumber 28 = .ok (.getfield 32, 3) := by decide +kernel
theorem dX0_startNumber_31 : decode cX0_startNumber 31 = .ok (.iconst 1, 1) := by decide +kernel
theorem dX0_startNumber_32 : decode cX0_startNumber 32 = .ok (.iadd, 1) := by decide +kernel
theorem dX0_startNumber_33 : decode cX0_startNumber 33 = .ok (.putfield 32, 3) := by decide +kernel
theorem dX0_startNumber_36 : decode cX0_startNumber 36 = .ok (.aload_n 0, 1) := by decide +kernel
theorem dX0_startNumber_37 : decode cX0_startNumber 37 = .ok (.dup, 1) := by decide +kernel
theorem dX0_startNumber_38 : decode cX0_startNumber 38 = .ok (.getfield 57, 3) := by decide +kernel
theorem dX0_startNumber_41 : decode cX0_startNumber 41 = .ok (.iconst 1, 1) := by decide +kernel
theorem dX0_startNumber_42 : decode cX0_startNumber 42 = .ok (.isub, 1) := by decide +kernel
theorem dX0_startNumber_43 : decode cX0_startNumber 43 = .ok (.putfield 57, 3) := by decide +kernel
theorem dX0_startNumber_46 : decode cX0_startNumber 46 = .ok (.aload_n 0, 1) := by decide +kernel
theorem dX0_startNumber_47 : decode cX0_startNumber 47 = .ok (.iconst 0, 1) := by decide +kernel
theorem dX0_startNumber_48 : decode cX0_startNumber 48 = .ok (.putfield 54, 3) := by decide +kernel
theorem dX0_startNumber_51 : decode cX0_startNumber 51 = .ok (.return_, 1) := by decide +kernel
theorem dX0_addDigit_0 : decode cX0_addDigit 0 = .ok (.aload_n 0, 1) := by decide +kernel
theorem dX0_addDigit_1 : decode cX0_addDigit 1 = .ok (.getfield 54, 3) := by decide +kernel
theorem dX0_addDigit_4 : decode cX0_addDigit 4 = .ok (.iconst 3, 1) := by decide +kernel
theorem dX0_addDigit_5 : decode cX0_addDigit 5 = .ok (.if_icmp .lt 5, 3) := by decide +kernel
theorem dX0_addDigit_8 : decode cX0_addDigit 8 = .ok (.iconst 0, 1) := by decide +kernel
theorem dX0_addDigit_9 : decode cX0_addDigit 9 = .ok (.ireturn, 1) := by decide +kernel
theorem dX0_addDigit_10 : decode cX0_addDigit 10 = .ok (.aload_n 0, 1) := by decide +kernel
theorem dX0_addDigit_11 : decode cX0_addDigit 11 = .ok (.getfield 32, 3) := by decide +kernel
theorem dX0_addDigit_14 : decode cX0_addDigit 14 = .ok (.iconst 1, 1) := by decide +kernel
theorem dX0_addDigit_15 : decode cX0_addDigit 15 = .ok (.isub, 1) := by decide +kernel
theorem dX0_addDigit_16 : decode cX0_addDigit 16 = .ok (.istore_n 2, 1) := by decide +kernel
theorem dX0_addDigit_17 : decode cX0_addDigit 17 = .ok (.iload_n 2, 1) := by decide +kernel
theorem dX0_addDigit_18 : decode cX0_addDigit 18 = .ok (.ifCond .lt 9, 3) := by decide +kernel
theorem dX0_addDigit_21 : decode cX0_addDigit 21 = .ok (.iload_n 2, 1) := by decide +kernel
theorem dX0_addDigit_22 : decode cX0_addDigit 22 = .ok (.bipush 80, 2) := by decide +kernel
theorem dX0_addDigit_24 : decode cX0_addDigit 24 = .ok (.if_icmp .lt 5, 3) := by decide +kernel
theorem dX0_addDigit_27 : decode cX0_addDigit 27 = .ok (.iconst 0, 1) := by decide +kernel
theorem dX0_addDigit_28 : decode cX0_addDigit 28 = .ok (.ireturn, 1) := by decide +kernel
theorem dX0_addDigit_29 : decode cX0_addDigit 29 = .ok (.aload_n 0, 1) := by decide +kernel
theorem dX0_addDigit_30 : decode cX0_addDigit 30 = .ok (.getfield 22, 3) := by decide +kernel
theorem dX0_addDigit_33 : decode cX0_addDigit 33 = .ok (.iload_n 2, 1) := by decide +kernel
theorem dX0_addDigit_34 : decode cX0_addDigit 34 = .ok (.aload_n 0, 1) := by decide +kernel
theorem dX0_addDigit_35 : decode cX0_addDigit 35 = .ok (.getfield 22, 3) := by decide +kernel
theorem dX0_addDigit_38 : decode cX0_addDigit 38 = .ok (.iload_n 2, 1) := by decide +kernel
theorem dX0_addDigit_39 : decode cX0_addDigit 39 = .ok (.iaload, 1) := by decide +kernel
theorem dX0_addDigit_40 : decode cX0_addDigit 40 = .ok (.bipush 10, 2) := by decide +kernel
theorem dX0_addDigit_42 : decode cX0_addDigit 42 = .ok (.imul, 1) := by decide +kernel
theorem dX0_addDigit_43 : decode cX0_addDigit 43 = .ok (.iload_n 1, 1) := by decide +kernel
theorem dX0_addDigit_44 : decode cX0_addDigit 44 = .ok (.iadd, 1) := by decide +kernel
theorem dX0_addDigit_45 : decode cX0_addDigit 45 = .ok (.iastore, 1) := by decide +kernel
theorem dX0_addDigit_46 : decode cX0_addDigit 46 = .ok (.aload_n 0, 1) := by decide +kernel
theorem dX0_addDigit_47 : decode cX0_addDigit 47 = .ok (.dup, 1) := by decide +kernel
theorem dX0_addDigit_48 : decode cX0_addDigit 48 = .ok (.getfield 54, 3) := by decide +kernel
theorem dX0_addDigit_51 : decode cX0_addDigit 51 = .ok (.iconst 1, 1) := by decide +kernel
theorem dX0_addDigit_52 : decode cX0_addDigit 52 = .ok (.iadd, 1) := by decide +kernel
theorem dX0_addDigit_53 : decode cX0_addDigit 53 = .ok (.putfield 54, 3) := by decide +kernel
theorem dX0_addDigit_56 : decode cX0_addDigit 56 = .ok (.iconst 1, 1) := by decide +kernel
theorem dX0_addDigit_57 : decode cX0_addDigit 57 = .ok (.ireturn, 1) := by decide +kernel
theorem dX0_commandCount_0 : decode cX0_commandCount 0 = .ok (.aload_n 0, 1) := by decide +kernel
theorem dX0_commandCount_1 : decode cX0_commandCount 1 = .ok (.getfield 29, 3) := by decide +kernel
theorem dX0_commandCount_4 : decode cX0_commandCount 4 = .ok (.ireturn, 1) := by decide +kernel
theorem dX0_isCommand_0 : decode cX0_isCommand 0 = .ok (.iload_n 0, 1) := by decide +kernel
theorem dX0_isCommand_1 : decode cX0_isCommand 1 = .ok (.ifCond .lt 13, 3) := by decide +kernel
theorem dX0_isCommand_4 : decode cX0_isCommand 4 = .ok (.iload_n 0, 1) := by decide +kernel
theorem dX0_isCommand_5 : decode cX0_isCommand 5 = .ok (.bipush 80, 2) := by decide +kernel
theorem dX0_isCommand_7 : decode cX0_isCommand 7 = .ok (.if_icmp .ge 7, 3) := by decide +kernel
theorem dX0_isCommand_10 : decode cX0_isCommand 10 = .ok (.iconst 1, 1) := by decide +kernel
theorem dX0_isCommand_11 : decode cX0_isCommand 11 = .ok (.goto 4, 3) := by decide +kernel
theorem dX0_isCommand_14 : decode cX0_isCommand 14 = .ok (.iconst 0, 1) := by decide +kernel
theorem dX0_isCommand_15 : decode cX0_isCommand 15 = .ok (.ireturn, 1) := by decide +kernel
theorem dX0_letterOf_0 : decode cX0_letterOf 0 = .ok (.iload_n 1, 1) := by decide +kernel
theorem dX0_letterOf_1 : decode cX0_letterOf 1 = .ok (.invokestatic 67, 3) := by decide +kernel
theorem dX0_letterOf_4 : decode cX0_letterOf 4 = .ok (.ifCond .eq 12, 3) := by decide +kernel
theorem dX0_letterOf_7 : decode cX0_letterOf 7 = .ok (.aload_n 0, 1) := by decide +kernel
theorem dX0_letterOf_8 : decode cX0_letterOf 8 = .ok (.getfield 15, 3) := by decide +kernel
theorem dX0_letterOf_11 : decode cX0_letterOf 11 = .ok (.iload_n 1, 1) := by decide +kernel
theorem dX0_letterOf_12 : decode cX0_letterOf 12 = .ok (.caload, 1) := by decide +kernel
theorem dX0_letterOf_13 : decode cX0_letterOf 13 = .ok (.goto 5, 3) := by decide +kernel
theorem dX0_letterOf_16 : decode cX0_letterOf 16 = .ok (.bipush 32, 2) := by decide +kernel
theorem dX0_letterOf_18 : decode cX0_letterOf 18 = .ok (.ireturn, 1) := by decide +kernel
theorem dX0_numberOf_0 : decode cX0_numberOf 0 = .ok (.iload_n 1, 1) := by decide +kernel
theorem dX0_numberOf_1 : decode cX0_numberOf 1 = .ok (.invokestatic 67, 3) := by decide +kernel
theorem dX0_numberOf_4 : decode cX0_numberOf 4 = .ok (.ifCond .eq 14, 3) := by decide +kernel
theorem dX0_numberOf_7 : decode cX0_numberOf 7 = .ok (.aload_n 0, 1) := by decide +kernel
theorem dX0_numberOf_8 : decode cX0_numberOf 8 = .ok (.getfield 18, 3) := by decide +kernel
theorem dX0_numberOf_11 : decode cX0_numberOf 11 = .ok (.iload_n 1, 1) := by decide +kernel
theorem dX0_numberOf_12 : decode cX0_numberOf 12 = .ok (.iaload, 1) := by decide +kernel
theorem dX0_numberOf_13 : decode cX0_numberOf 13 = .ok (.iload_n 2, 1) := by decide +kernel
theorem dX0_numberOf_14 : decode cX0_numberOf 14 = .ok (.iadd, 1) := by decide +kernel
theorem dX0_numberOf_15 : decode cX0_numberOf 15 = .ok (.goto 4, 3) := by decide +kernel
theorem dX0_numberOf_18 : decode cX0_numberOf 18 = .ok (.iconst (-1), 1) := by decide +kernel
theorem dX0_numberOf_19 : decode cX0_numberOf 19 = .ok (.istore_n 3, 1) := by decide +kernel
theorem dX0_numberOf_20 : decode cX0_numberOf 20 = .ok (.iload_n 3, 1) := by decide +kernel
theorem dX0_numberOf_21 : decode cX0_numberOf 21 = .ok (.ifCond .lt 18, 3) := by decide +kernel
theorem dX0_numberOf_24 : decode cX0_numberOf 24 = .ok (.iload_n 3, 1) := by decide +kernel
theorem dX0_numberOf_25 : decode cX0_numberOf 25 = .ok (.bipush 80, 2) := by decide +kernel
theorem dX0_numberOf_27 : decode cX0_numberOf 27 = .ok (.if_icmp .ge 12, 3) := by decide +kernel
theorem dX0_numberOf_30 : decode cX0_numberOf 30 = .ok (.aload_n 0, 1) := by decide +kernel
theorem dX0_numberOf_31 : decode cX0_numberOf 31 = .ok (.getfield 22, 3) := by decide +kernel
theorem dX0_numberOf_34 : decode cX0_numberOf 34 = .ok (.iload_n 3, 1) := by decide +kernel
theorem dX0_numberOf_35 : decode cX0_numberOf 35 = .ok (.iaload, 1) := by decide +kernel
theorem dX0_numberOf_36 : decode cX0_numberOf 36 = .ok (.goto 4, 3) := by decide +kernel
theorem dX0_numberOf_39 : decode cX0_numberOf 39 = .ok (.iconst 0, 1) := by decide +kernel
theorem dX0_numberOf_40 : decode cX0_numberOf 40 = .ok (.ireturn, 1) := by decide +kernel
theorem dX1_copyFrom_0 : decode cX1_copyFrom 0 = .ok (.iconst 0, 1) := by decide +kernel
theorem dX1_copyFrom_1 : decode cX1_copyFrom 1 = .ok (.istore_n 2, 1) := by decide +kernel
theorem dX1_copyFrom_2 : decode cX1_copyFrom 2 = .ok (.iload_n 2, 1) := by decide +kernel
theorem dX1_copyFrom_3 : decode cX1_copyFrom 3 = .ok (.bipush 12, 2) := by decide +kernel
theorem dX1_copyFrom_5 : decode cX1_copyFrom 5 = .ok (.if_icmp .ge 21, 3) := by decide +kernel
theorem dX1_copyFrom_8 : decode cX1_copyFrom 8 = .ok (.aload_n 0, 1) := by decide +kernel
theorem dX1_copyFrom_9 : decode cX1_copyFrom 9 = .ok (.getfield 9, 3) := by decide +kernel
theorem dX1_copyFrom_12 : decode cX1_copyFrom 12 = .ok (.iload_n 2, 1) := by decide +kernel
theorem dX1_copyFrom_13 : decode cX1_copyFrom 13 = .ok (.aload_n 1, 1) := by decide +kernel
theorem dX1_copyFrom_14 : decode cX1_copyFrom 14 = .ok (.getfield 9, 3) := by decide +kernel
theorem dX1_copyFrom_17 : decode cX1_copyFrom 17 = .ok (.iload_n 2, 1) := by decide +kernel
theorem dX1_copyFrom_18 : decode cX1_copyFrom 18 = .ok (.baload, 1) := by decide +kernel
theorem dX1_copyFrom_19 : decode cX1_copyFrom 19 = .ok (.bastore, 1) := by decide +kernel
theorem dX1_copyFrom_20 : decode cX1_copyFrom 20 = .ok (.iinc 2 1, 3) := by decide +kernel
theorem dX1_copyFrom_23 : decode cX1_copyFrom 23 = .ok (.goto (-21), 3) := by decide +kernel
theorem dX1_copyFrom_26 : decode cX1_copyFrom 26 = .ok (.iconst 0, 1) := by decide +kernel
theorem dX1_copyFrom_27 : decode cX1_copyFrom 27 = .ok (.istore_n 2, 1) := by decide +kernel
theorem dX1_copyFrom_28 : decode cX1_copyFrom 28 = .ok (.iload_n 2, 1) := by decide +kernel
theorem dX1_copyFrom_29 : decode cX1_copyFrom 29 = .ok (.bipush 96, 2) := by decide +kernel
theorem dX1_copyFrom_31 : decode cX1_copyFrom 31 = .ok (.if_icmp .ge 21, 3) := by decide +kernel
theorem dX1_copyFrom_34 : decode cX1_copyFrom 34 = .ok (.aload_n 0, 1) := by decide +kernel
theorem dX1_copyFrom_35 : decode cX1_copyFrom 35 = .ok (.getfield 15, 3) := by decide +kernel
theorem dX1_copyFrom_38 : decode cX1_copyFrom 38 = .ok (.iload_n 2, 1) := by decide +kernel
theorem dX1_copyFrom_39 : decode cX1_copyFrom 39 = .ok (.aload_n 1, 1) := by decide +kernel
theorem dX1_copyFrom_40 : decode cX1_copyFrom 40 = .ok (.getfield 15, 3) := by decide +kernel
theorem dX1_copyFrom_43 : decode cX1_copyFrom 43 = .ok (.iload_n 2, 1) := by decide +kernel
theorem dX1_copyFrom_44 : decode cX1_copyFrom 44 = .ok (.iaload, 1) := by decide +kernel
theorem dX1_copyFrom_45 : decode cX1_copyFrom 45 = .ok (.iastore, 1) := by decide +kernel
theorem dX1_copyFrom_46 : decode cX1_copyFrom 46 = .ok (.iinc 2 1, 3) := by decide +kernel
theorem dX1_copyFrom_49 : decode cX1_copyFrom 49 = .ok (.goto (-21), 3) := by decide +kernel
theorem dX1_copyFrom_52 : decode cX1_copyFrom 52 = .ok (.iconst 0, 1) := by decide +kernel
theorem dX1_copyFrom_53 : decode cX1_copyFrom 53 = .ok (.istore_n 2, 1) := by decide +kernel
theorem dX1_copyFrom_54 : decode cX1_copyFrom 54 = .ok (.iload_n 2, 1) := by decide +kernel
theorem dX1_copyFrom_55 : decode cX1_copyFrom 55 = .ok (.bipush 8, 2) := by decide +kernel
theorem dX1_copyFrom_57 : decode cX1_copyFrom 57 = .ok (.if_icmp .ge 21, 3) := by decide +kernel
theorem dX1_copyFrom_60 : decode cX1_copyFrom 60 = .ok (.aload_n 0, 1) := by decide +kernel
theorem dX1_copyFrom_61 : decode cX1_copyFrom 61 = .ok (.getfield 19, 3) := by decide +kernel
theorem dX1_copyFrom_64 : decode cX1_copyFrom 64 = .ok (.iload_n 2, 1) := by decide +kernel
theorem dX1_copyFrom_65 : decode cX1_copyFrom 65 = .ok (.aload_n 1, 1) := by decide +kernel
theorem dX1_copyFrom_66 : decode cX1_copyFrom 66 = .ok (.getfield 19, 3) := by decide +kernel
theorem dX1_copyFrom_69 : decode cX1_copyFrom 69 = .ok (.iload_n 2, 1) := by decide +kernel
theorem dX1_copyFrom_70 : decode cX1_copyFrom 70 = .ok (.baload, 1) := by decide +kernel
theorem dX1_copyFrom_71 : decode cX1_copyFrom 71 = .ok (.bastore, 1) := by decide +kernel
theorem dX1_copyFrom_72 : decode cX1_copyFrom 72 = .ok (.iinc 2 1, 3) := by decide +kernel
theorem dX1_copyFrom_75 : decode cX1_copyFrom 75 = .ok (.goto (-21), 3) := by decide +kernel
theorem dX1_copyFrom_78 : decode cX1_copyFrom 78 = .ok (.iconst 0, 1) := by decide +kernel
theorem dX1_copyFrom_79 : decode cX1_copyFrom 79 = .ok (.istore_n 2, 1) := by decide +kernel
theorem dX1_copyFrom_80 : decode cX1_copyFrom 80 = .ok (.iload_n 2, 1) := by decide +kernel
theorem dX1_copyFrom_81 : decode cX1_copyFrom 81 = .ok (.bipush 48, 2) := by decide +kernel
theorem dX1_copyFrom_83 : decode cX1_copyFrom 83 = .ok (.if_icmp .ge 21, 3) := by decide +kernel
theorem dX1_copyFrom_86 : decode cX1_copyFrom 86 = .ok (.aload_n 0, 1) := by decide +kernel
theorem dX1_copyFrom_87 : decode cX1_copyFrom 87 = .ok (.getfield 22, 3) := by decide +kernel
theorem dX1_copyFrom_90 : decode cX1_copyFrom 90 = .ok (.iload_n 2, 1) := by decide +kernel
theorem dX1_copyFrom_91 : decode cX1_copyFrom 91 = .ok (.aload_n 1, 1) := by decide +kernel
theorem dX1_copyFrom_92 : decode cX1_copyFrom 92 = .ok (.getfield 22, 3) := by decide +kernel
theorem dX1_copyFrom_95 : decode cX1_copyFrom 95 = .ok (.iload_n 2, 1) := by decide +kernel
theorem dX1_copyFrom_96 : decode cX1_copyFrom 96 = .ok (.iaload, 1) := by decide +kernel
theorem dX1_copyFrom_97 : decode cX1_copyFrom 97 = .ok (.iastore, 1) := by decide +kernel
theorem dX1_copyFrom_98 : decode cX1_copyFrom 98 = .ok (.iinc 2 1, 3) := by decide +kernel
theorem dX1_copyFrom_101 : decode cX1_copyFrom 101 = .ok (.goto (-21), 3) := by decide +kernel
theorem dX1_copyFrom_104 : decode cX1_copyFrom 104 = .ok (.aload_n 0, 1) := by decide +kernel
theorem dX1_copyFrom_105 : decode cX1_copyFrom 105 = .ok (.aload_n 1, 1) := by decide +kernel
theorem dX1_copyFrom_106 : decode cX1_copyFrom 106 = .ok (.getfield 25, 3) := by decide +kernel
theorem dX1_copyFrom_109 : decode cX1_copyFrom 109 = .ok (.putfield 25, 3) := by decide +kernel
theorem dX1_copyFrom_112 : decode cX1_copyFrom 112 = .ok (.aload_n 0, 1) := by decide +kernel
theorem dX1_copyFrom_113 : decode cX1_copyFrom 113 = .ok (.aload_n 1, 1) := by decide +kernel
theorem dX1_copyFrom_114 : decode cX1_copyFrom 114 = .ok (.getfield 29, 3) := by decide +kernel
theorem dX1_copyFrom_117 : decode cX1_copyFrom 117 = .ok (.putfield 29, 3) := by decide +kernel
theorem dX1_copyFrom_120 : decode cX1_copyFrom 120 = .ok (.return_, 1) := by decide +kernel
theorem dX1_hasStory_0 : decode cX1_hasStory 0 = .ok (.iload_n 1, 1) := by decide +kernel
theorem dX1_hasStory_1 : decode cX1_hasStory 1 = .ok (.invokestatic 32, 3) := by decide +kernel
theorem dX1_hasStory_4 : decode cX1_hasStory 4 = .ok (.ifCond .eq 16, 3) := by decide +kernel
theorem dX1_hasStory_7 : decode cX1_hasStory 7 = .ok (.aload_n 0, 1) := by decide +kernel
theorem dX1_hasStory_8 : decode cX1_hasStory 8 = .ok (.getfield 9, 3) := by decide +kernel
theorem dX1_hasStory_11 : decode cX1_hasStory 11 = .ok (.iload_n 1, 1) := by decide +kernel
theorem dX1_hasStory_12 : decode cX1_hasStory 12 = .ok (.baload, 1) := by decide +kernel
theorem dX1_hasStory_13 : decode cX1_hasStory 13 = .ok (.ifCond .eq 7, 3) := by decide +kernel
theorem dX1_hasStory_16 : decode cX1_hasStory 16 = .ok (.iconst 1, 1) := by decide +kernel
theorem dX1_hasStory_17 : decode cX1_hasStory 17 = .ok (.goto 4, 3) := by decide +kernel
theorem dX1_hasStory_20 : decode cX1_hasStory 20 = .ok (.iconst 0, 1) := by decide +kernel
theorem dX1_hasStory_21 : decode cX1_hasStory 21 = .ok (.ireturn, 1) := by decide +kernel
theorem dX1_hasAdvertisement_0 : decode cX1_hasAdvertisement 0 = .ok (.iload_n 1, 1) := by decide +kernel
theorem dX1_hasAdvertisement_1 : decode cX1_hasAdvertisement 1 = .ok (.invokestatic 36, 3) := by decide +kernel
theorem dX1_hasAdvertisement_4 : decode cX1_hasAdvertisement 4 = .ok (.ifCond .eq 16, 3) := by decide +kernel
theorem dX1_hasAdvertisement_7 : decode cX1_hasAdvertisement 7 = .ok (.aload_n 0, 1) := by decide +kernel
theorem dX1_hasAdvertisement_8 : decode cX1_hasAdvertisement 8 = .ok (.getfield 19, 3) := by decide +kernel
theorem dX1_hasAdvertisement_11 : decode cX1_hasAdvertisement 11 = .ok (.iload_n 1, 1) := by decide +kernel
theorem dX1_hasAdvertisement_12 : decode cX1_hasAdvertisement 12 = .ok (.baload, 1) := by decide +kernel
theorem dX1_hasAdvertisement_13 : decode cX1_hasAdvertisement 13 = .ok (.ifCond .eq 7, 3) := by decide +kernel
theorem dX1_hasAdvertisement_16 : decode cX1_hasAdvertisement 16 = .ok (.iconst 1, 1) := by decide +kernel
theorem dX1_hasAdvertisement_17 : decode cX1_hasAdvertisement 17 = .ok (.goto 4, 3) := by decide +kernel
theorem dX1_hasAdvertisement_20 : decode cX1_hasAdvertisement 20 = .ok (.iconst 0, 1) := by decide +kernel
theorem dX1_hasAdvertisement_21 : decode cX1_hasAdvertisement 21 = .ok (.ireturn, 1) := by decide +kernel
theorem dX1_storyNumber_0 : decode cX1_storyNumber 0 = .ok (.iload_n 1, 1) := by decide +kernel
theorem dX1_storyNumber_1 : decode cX1_storyNumber 1 = .ok (.ifCond .lt 19, 3) := by decide +kernel
theorem dX1_storyNumber_4 : decode cX1_storyNumber 4 = .ok (.iload_n 1, 1) := by decide +kernel
theorem dX1_storyNumber_5 : decode cX1_storyNumber 5 = .ok (.bipush 12, 2) := by decide +kernel
theorem dX1_storyNumber_7 : decode cX1_storyNumber 7 = .ok (.if_icmp .ge 13, 3) := by decide +kernel
theorem dX1_storyNumber_10 : decode cX1_storyNumber 10 = .ok (.iload_n 2, 1) := by decide +kernel
theorem dX1_storyNumber_11 : decode cX1_storyNumber 11 = .ok (.ifCond .lt 9, 3) := by decide +kernel
theorem dX1_storyNumber_14 : decode cX1_storyNumber 14 = .ok (.iload_n 2, 1) := by decide +kernel
theorem dX1_storyNumber_15 : decode cX1_storyNumber 15 = .ok (.bipush 8, 2) := by decide +kernel
theorem dX1_storyNumber_17 : decode cX1_storyNumber 17 = .ok (.if_icmp .lt 5, 3) := by decide +kernel
theorem dX1_storyNumber_20 : decode cX1_storyNumber 20 = .ok (.iconst 0, 1) := by decide +kernel
theorem dX1_storyNumber_21 : decode cX1_storyNumber 21 = .ok (.ireturn, 1) := by decide +kernel
theorem dX1_storyNumber_22 : decode cX1_storyNumber 22 = .ok (.aload_n 0, 1) := by decide +kernel
theorem dX1_storyNumber_23 : decode cX1_storyNumber 23 = .ok (.getfield 15, 3) := by decide +kernel
theorem dX1_storyNumber_26 : decode cX1_storyNumber 26 = .ok (.iload_n 1, 1) := by decide +kernel
theorem dX1_storyNumber_27 : decode cX1_storyNumber 27 = .ok (.bipush 8, 2) := by decide +kernel
theorem dX1_storyNumber_29 : decode cX1_storyNumber 29 = .ok (.imul, 1) := by decide +kernel
theorem dX1_storyNumber_30 : decode cX1_storyNumber 30 = .ok (.iload_n 2, 1) := by decide +kernel
theorem dX1_storyNumber_31 : decode cX1_storyNumber 31 = .ok (.iadd, 1) := by decide +kernel
theorem dX1_storyNumber_32 : decode cX1_storyNumber 32 = .ok (.iaload, 1) := by decide +kernel
theorem dX1_storyNumber_33 : decode cX1_storyNumber 33 = .ok (.ireturn, 1) := by decide +kernel
theorem dX1_advertisementNumber_0 : decode cX1_advertisementNumber 0 = .ok (.iload_n 1, 1) := by decide +kernel
theorem dX1_advertisementNumber_1 : decode cX1_advertisementNumber 1 = .ok (.invokestatic 36, 3) := by decide +kernel
theorem dX1_advertisementNumber_4 : decode cX1_advertisementNumber 4 = .ok (.ifCond .eq 13, 3) := by decide +kernel
theorem dX1_advertisementNumber_7 : decode cX1_advertisementNumber 7 = .ok (.iload_n 2, 1) := by decide +kernel
theorem dX1_advertisementNumber_8 : decode cX1_advertisementNumber 8 = .ok (.ifCond .lt 9, 3) := by decide +kernel
theorem dX1_advertisementNumber_11 : decode cX1_advertisementNumber 11 = .ok (.iload_n 2, 1) := by decide +kernel
theorem dX1_advertisementNumber_12 : decode cX1_advertisementNumber 12 = .ok (.bipush 6, 2) := by decide +kernel
theorem dX1_advertisementNumber_14 : decode cX1_advertisementNumber 14 = .ok (.if_icmp .lt 5, 3) := by decide +kernel
theorem dX1_advertisementNumber_17 : decode cX1_advertisementNumber 17 = .ok (.iconst 0, 1) := by decide +kernel
theorem dX1_advertisementNumber_18 : decode cX1_advertisementNumber 18 = .ok (.ireturn, 1) := by decide +kernel
theorem dX1_advertisementNumber_19 : decode cX1_advertisementNumber 19 = .ok (.aload_n 0, 1) := by decide +kernel
theorem dX1_advertisementNumber_20 : decode cX1_advertisementNumber 20 = .ok (.getfield 22, 3) := by decide +kernel
theorem dX1_advertisementNumber_23 : decode cX1_advertisementNumber 23 = .ok (.iload_n 1, 1) := by decide +kernel
theorem dX1_advertisementNumber_24 : decode cX1_advertisementNumber 24 = .ok (.bipush 6, 2) := by decide +kernel
theorem dX1_advertisementNumber_26 : decode cX1_advertisementNumber 26 = .ok (.imul, 1) := by decide +kernel
theorem dX1_advertisementNumber_27 : decode cX1_advertisementNumber 27 = .ok (.iload_n 2, 1) := by decide +kernel
theorem dX1_advertisementNumber_28 : decode cX1_advertisementNumber 28 = .ok (.iadd, 1) := by decide +kernel
theorem dX1_advertisementNumber_29 : decode cX1_advertisementNumber 29 = .ok (.iaload, 1) := by decide +kernel
theorem dX1_advertisementNumber_30 : decode cX1_advertisementNumber 30 = .ok (.ireturn, 1) := by decide +kernel
theorem dX1_isLate_0 : decode cX1_isLate 0 = .ok (.aload_n 0, 1) := by decide +kernel
theorem dX1_isLate_1 : decode cX1_isLate 1 = .ok (.iload_n 1, 1) := by decide +kernel
theorem dX1_isLate_2 : decode cX1_isLate 2 = .ok (.bipush 7, 2) := by decide +kernel
theorem dX1_isLate_4 : decode cX1_isLate 4 = .ok (.invokevirtual 39, 3) := by decide +kernel
theorem dX1_isLate_7 : decode cX1_isLate 7 = .ok (.ifCond .eq 7, 3) := by decide +kernel
theorem dX1_isLate_10 : decode cX1_isLate 10 = .ok (.iconst 1, 1) := by decide +kernel
theorem dX1_isLate_11 : decode cX1_isLate 11 = .ok (.goto 4, 3) := by decide +kernel
theorem dX1_isLate_14 : decode cX1_isLate 14 = .ok (.iconst 0, 1) := by decide +kernel
theorem dX1_isLate_15 : decode cX1_isLate 15 = .ok (.ireturn, 1) := by decide +kernel
theorem dX1_headRows_0 : decode cX1_headRows 0 = .ok (.aload_n 0, 1) := by decide +kernel
theorem dX1_headRows_1 : decode cX1_headRows 1 = .ok (.iload_n 1, 1) := by decide +kernel
theorem dX1_headRows_2 : decode cX1_headRows 2 = .ok (.iconst 2, 1) := by decide +kernel
theorem dX1_headRows_3 : decode cX1_headRows 3 = .ok (.invokevirtual 39, 3) := by decide +kernel
theorem dX1_headRows_6 : decode cX1_headRows 6 = .ok (.aload_n 0, 1) := by decide +kernel
theorem dX1_headRows_7 : decode cX1_headRows 7 = .ok (.iload_n 1, 1) := by decide +kernel
theorem dX1_headRows_8 : decode cX1_headRows 8 = .ok (.iconst 5, 1) := by decide +kernel
theorem dX1_headRows_9 : decode cX1_headRows 9 = .ok (.invokevirtual 39, 3) := by decide +kernel
theorem dX1_headRows_12 : decode cX1_headRows 12 = .ok (.iadd, 1) := by decide +kernel
theorem dX1_headRows_13 : decode cX1_headRows 13 = .ok (.aload_n 0, 1) := by decide +kernel
theorem dX1_headRows_14 : decode cX1_headRows 14 = .ok (.iload_n 1, 1) := by decide +kernel
theorem dX1_headRows_15 : decode cX1_headRows 15 = .ok (.bipush 6, 2) := by decide +kernel
theorem dX1_headRows_17 : decode cX1_headRows 17 = .ok (.invokevirtual 39, 3) := by decide +kernel
theorem dX1_headRows_20 : decode cX1_headRows 20 = .ok (.iadd, 1) := by decide +kernel
theorem dX1_headRows_21 : decode cX1_headRows 21 = .ok (.ireturn, 1) := by decide +kernel
theorem dX1_storyCount_0 : decode cX1_storyCount 0 = .ok (.iconst 0, 1) := by decide +kernel
theorem dX1_storyCount_1 : decode cX1_storyCount 1 = .ok (.istore_n 1, 1) := by decide +kernel
theorem dX1_storyCount_2 : decode cX1_storyCount 2 = .ok (.iconst 0, 1) := by decide +kernel
theorem dX1_storyCount_3 : decode cX1_storyCount 3 = .ok (.istore_n 2, 1) := by decide +kernel
theorem dX1_storyCount_4 : decode cX1_storyCount 4 = .ok (.iload_n 2, 1) := by decide +kernel
theorem dX1_storyCount_5 : decode cX1_storyCount 5 = .ok (.bipush 12, 2) := by decide +kernel
theorem dX1_storyCount_7 : decode cX1_storyCount 7 = .ok (.if_icmp .ge 21, 3) := by decide +kernel
theorem dX1_storyCount_10 : decode cX1_storyCount 10 = .ok (.aload_n 0, 1) := by decide +kernel
theorem dX1_storyCount_11 : decode cX1_storyCount 11 = .ok (.getfield 9, 3) := by decide +kernel
theorem dX1_storyCount_14 : decode cX1_storyCount 14 = .ok (.iload_n 2, 1) := by decide +kernel
theorem dX1_storyCount_15 : decode cX1_storyCount 15 = .ok (.baload, 1) := by decide +kernel
theorem dX1_storyCount_16 : decode cX1_storyCount 16 = .ok (.ifCond .eq 6, 3) := by decide +kernel
theorem dX1_storyCount_19 : decode cX1_storyCount 19 = .ok (.iinc 1 1, 3) := by decide +kernel
theorem dX1_storyCount_22 : decode cX1_storyCount 22 = .ok (.iinc 2 1, 3) := by decide +kernel
theorem dX1_storyCount_25 : decode cX1_storyCount 25 = .ok (.goto (-21), 3) := by decide +kernel
theorem dX1_storyCount_28 : decode cX1_storyCount 28 = .ok (.iload_n 1, 1) := by decide +kernel
theorem dX1_storyCount_29 : decode cX1_storyCount 29 = .ok (.ireturn, 1) := by decide +kernel
theorem dX1_advertisementCount_0 : decode cX1_advertisementCount 0 = .ok (.iconst 0, 1) := by decide +kernel
theorem dX1_advertisementCount_1 : decode cX1_advertisementCount 1 = .ok (.istore_n 1, 1) := by decide +kernel
theorem dX1_advertisementCount_2 : decode cX1_advertisementCount 2 = .ok (.iconst 0, 1) := by decide +kernel
theorem dX1_advertisementCount_3 : decode cX1_advertisementCount 3 = .ok (.istore_n 2, 1) := by decide +kernel
theorem dX1_advertisementCount_4 : decode cX1_advertisementCount 4 = .ok (.iload_n 2, 1) := by decide +kernel
theorem dX1_advertisementCount_5 : decode cX1_advertisementCount 5 = .ok (.bipush 8, 2) := by decide +kernel
theorem dX1_advertisementCount_7 : decode cX1_advertisementCount 7 = .ok (.if_icmp .ge 21, 3) := by decide +kernel
theorem dX1_advertisementCount_10 : decode cX1_advertisementCount 10 = .ok (.aload_n 0, 1) := by decide +kernel
theorem dX1_advertisementCount_11 : decode cX1_advertisementCount 11 = .ok (.getfield 19, 3) := by decide +kernel
theorem dX1_advertisementCount_14 : decode cX1_advertisementCount 14 = .ok (.iload_n 2, 1) := by decide +kernel
theorem dX1_advertisementCount_15 : decode cX1_advertisementCount 15 = .ok (.baload, 1) := by decide +kernel
theorem dX1_advertisementCount_16 : decode cX1_advertisementCount 16 = .ok (.ifCond .eq 6, 3) := by decide +kernel
theorem dX1_advertisementCount_19 : decode cX1_advertisementCount 19 = .ok (.iinc 1 1, 3) := by decide +kernel
theorem dX1_advertisementCount_22 : decode cX1_advertisementCount 22 = .ok (.iinc 2 1, 3) := by decide +kernel
theorem dX1_advertisementCount_25 : decode cX1_advertisementCount 25 = .ok (.goto (-21), 3) := by decide +kernel
theorem dX1_advertisementCount_28 : decode cX1_advertisementCount 28 = .ok (.iload_n 1, 1) := by decide +kernel
theorem dX1_advertisementCount_29 : decode cX1_advertisementCount 29 = .ok (.ireturn, 1) := by decide +kernel
theorem dX1_cellsOf_0 : decode cX1_cellsOf 0 = .ok (.aload_n 0, 1) := by decide +kernel
theorem dX1_cellsOf_1 : decode cX1_cellsOf 1 = .ok (.iload_n 1, 1) := by decide +kernel
theorem dX1_cellsOf_2 : decode cX1_cellsOf 2 = .ok (.iconst 3, 1) := by decide +kernel
theorem dX1_cellsOf_3 : decode cX1_cellsOf 3 = .ok (.invokevirtual 43, 3) := by decide +kernel
theorem dX1_cellsOf_6 : decode cX1_cellsOf 6 = .ok (.aload_n 0, 1) := by decide +kernel
theorem dX1_cellsOf_7 : decode cX1_cellsOf 7 = .ok (.iload_n 1, 1) := by decide +kernel
theorem dX1_cellsOf_8 : decode cX1_cellsOf 8 = .ok (.iconst 4, 1) := by decide +kernel
theorem dX1_cellsOf_9 : decode cX1_cellsOf 9 = .ok (.invokevirtual 43, 3) := by decide +kernel
theorem dX1_cellsOf_12 : decode cX1_cellsOf 12 = .ok (.imul, 1) := by decide +kernel
theorem dX1_cellsOf_13 : decode cX1_cellsOf 13 = .ok (.ireturn, 1) := by decide +kernel
theorem dX1_priceOfCells_0 : decode cX1_priceOfCells 0 = .ok (.aload_n 0, 1) := by decide +kernel
theorem dX1_priceOfCells_1 : decode cX1_priceOfCells 1 = .ok (.iload_n 1, 1) := by decide +kernel
theorem dX1_priceOfCells_2 : decode cX1_priceOfCells 2 = .ok (.invokevirtual 46, 3) := by decide +kernel
theorem dX1_priceOfCells_5 : decode cX1_priceOfCells 5 = .ok (.aload_n 0, 1) := by decide +kernel
theorem dX1_priceOfCells_6 : decode cX1_priceOfCells 6 = .ok (.iload_n 1, 1) := by decide +kernel
theorem dX1_priceOfCells_7 : decode cX1_priceOfCells 7 = .ok (.iconst 5, 1) := by decide +kernel
theorem dX1_priceOfCells_8 : decode cX1_priceOfCells 8 = .ok (.invokevirtual 43, 3) := by decide +kernel
theorem dX1_priceOfCells_11 : decode cX1_priceOfCells 11 = .ok (.imul, 1) := by decide +kernel
theorem dX1_priceOfCells_12 : decode cX1_priceOfCells 12 = .ok (.ireturn, 1) := by decide +kernel
theorem dX1_cellsOfAdvertisements_0 : decode cX1_cellsOfAdvertisements 0 = .ok (.iconst 0, 1) := by decide +kernel
theorem dX1_cellsOfAdvertisements_1 : decode cX1_cellsOfAdvertisements 1 = .ok (.istore_n 1, 1) := by decide +kernel
theorem dX1_cellsOfAdvertisements_2 : decode cX1_cellsOfAdvertisements 2 = .ok (.iconst 0, 1) := by decide +kernel
theorem dX1_cellsOfAdvertisements_3 : decode cX1_cellsOfAdvertisements 3 = .ok (.istore_n 2, 1) := by decide +kernel
theorem dX1_cellsOfAdvertisements_4 : decode cX1_cellsOfAdvertisements 4 = .ok (.iload_n 2, 1) := by decide +kernel
theorem dX1_cellsOfAdvertisements_5 : decode cX1_cellsOfAdvertisements 5 = .ok (.bipush 8, 2) := by decide +kernel
theorem dX1_cellsOfAdvertisements_7 : decode cX1_cellsOfAdvertisements 7 = .ok (.if_icmp .ge 26, 3) := by decide +kernel
theorem dX1_cellsOfAdvertisements_10 : decode cX1_cellsOfAdvertisements 10 = .ok (.aload_n 0, 1) := by decide +kernel
theorem dX1_cellsOfAdvertisements_11 : decode cX1_cellsOfAdvertisements 11 = .ok (.getfield 19, 3) := by decide +kernel
theorem dX1_cellsOfAdvertisements_14 : decode cX1_cellsOfAdvertisements 14 = .ok (.iload_n 2, 1) := by decide +kernel
theorem dX1_cellsOfAdvertisements_15 : decode cX1_cellsOfAdvertisements 15 = .ok (.baload, 1) := by decide +kernel
theorem dX1_cellsOfAdvertisements_16 : decode cX1_cellsOfAdvertisements 16 = .ok (.ifCond .eq 11, 3) := by decide +kernel
theorem dX1_cellsOfAdvertisements_19 : decode cX1_cellsOfAdvertisements 19 = .ok (.iload_n 1, 1) := by decide +kernel
theorem dX1_cellsOfAdvertisements_20 : decode cX1_cellsOfAdvertisements 20 = .ok (.aload_n 0, 1) := by decide +kernel
theorem dX1_cellsOfAdvertisements_21 : decode cX1_cellsOfAdvertisements 21 = .ok (.iload_n 2, 1) := by decide +kernel
theorem dX1_cellsOfAdvertisements_22 : decode cX1_cellsOfAdvertisements 22 = .ok (.invokevirtual 46, 3) := by decide +kernel
theorem dX1_cellsOfAdvertisements_25 : decode cX1_cellsOfAdvertisements 25 = .ok (.iadd, 1) := by decide +kernel
theorem dX1_cellsOfAdvertisements_26 : decode cX1_cellsOfAdvertisements 26 = .ok (.istore_n 1, 1) := by decide +kernel
theorem dX1_cellsOfAdvertisements_27 : decode cX1_cellsOfAdvertisements 27 = .ok (.iinc 2 1, 3) := by decide +kernel
theorem dX1_cellsOfAdvertisements_30 : decode cX1_cellsOfAdvertisements 30 = .ok (.goto (-26), 3) := by decide +kernel
theorem dX1_cellsOfAdvertisements_33 : decode cX1_cellsOfAdvertisements 33 = .ok (.iload_n 1, 1) := by decide +kernel
theorem dX1_cellsOfAdvertisements_34 : decode cX1_cellsOfAdvertisements 34 = .ok (.ireturn, 1) := by decide +kernel
theorem dX1_allPrices_0 : decode cX1_allPrices 0 = .ok (.iconst 0, 1) := by decide +kernel
theorem dX1_allPrices_1 : decode cX1_allPrices 1 = .ok (.istore_n 1, 1) := by decide +kernel
theorem dX1_allPrices_2 : decode cX1_allPrices 2 = .ok (.iconst 0, 1) := by decide +kernel
theorem dX1_allPrices_3 : decode cX1_allPrices 3 = .ok (.istore_n 2, 1) := by decide +kernel
theorem dX1_allPrices_4 : decode cX1_allPrices 4 = .ok (.iload_n 2, 1) := by decide +kernel
theorem dX1_allPrices_5 : decode cX1_allPrices 5 = .ok (.bipush 8, 2) := by decide +kernel
theorem dX1_allPrices_7 : decode cX1_allPrices 7 = .ok (.if_icmp .ge 26, 3) := by decide +kernel
theorem dX1_allPrices_10 : decode cX1_allPrices 10 = .ok (.aload_n 0, 1) := by decide +kernel
theorem dX1_allPrices_11 : decode cX1_allPrices 11 = .ok (.getfield 19, 3) := by decide +kernel
theorem dX1_allPrices_14 : decode cX1_allPrices 14 = .ok (.iload_n 2, 1) := by decide +kernel
theorem dX1_allPrices_15 : decode cX1_allPrices 15 = .ok (.baload, 1) := by decide +kernel
theorem dX1_allPrices_16 : decode cX1_allPrices 16 = .ok (.ifCond .eq 11, 3) := by decide +kernel
theorem dX1_allPrices_19 : decode cX1_allPrices 19 = .ok (.iload_n 1, 1) := by decide +kernel
theorem dX1_allPrices_20 : decode cX1_allPrices 20 = .ok (.aload_n 0, 1) := by decide +kernel
theorem dX1_allPrices_21 : decode cX1_allPrices 21 = .ok (.iload_n 2, 1) := by decide +kernel
theorem dX1_allPrices_22 : decode cX1_allPrices 22 = .ok (.invokevirtual 50, 3) := by decide +kernel
theorem dX1_allPrices_25 : decode cX1_allPrices 25 = .ok (.iadd, 1) := by decide +kernel
theorem dX1_allPrices_26 : decode cX1_allPrices 26 = .ok (.istore_n 1, 1) := by decide +kernel
theorem dX1_allPrices_27 : decode cX1_allPrices 27 = .ok (.iinc 2 1, 3) := by decide +kernel
theorem dX1_allPrices_30 : decode cX1_allPrices 30 = .ok (.goto (-26), 3) := by decide +kernel
theorem dX1_allPrices_33 : decode cX1_allPrices 33 = .ok (.iload_n 1, 1) := by decide +kernel
theorem dX1_allPrices_34 : decode cX1_allPrices 34 = .ok (.ireturn, 1) := by decide +kernel
theorem dX1_faultOfStory_0 : decode cX1_faultOfStory 0 = .ok (.iload_n 1, 1) := by decide +kernel
theorem dX1_faultOfStory_1 : decode cX1_faultOfStory 1 = .ok (.invokestatic 53, 3) := by decide +kernel
theorem dX1_faultOfStory_4 : decode cX1_faultOfStory 4 = .ok (.ifCond .ne 5, 3) := by decide +kernel
theorem dX1_faultOfStory_7 : decode cX1_faultOfStory 7 = .ok (.iconst 1, 1) := by decide +kernel
theorem dX1_faultOfStory_8 : decode cX1_faultOfStory 8 = .ok (.ireturn, 1) := by decide +kernel
theorem dX1_faultOfStory_9 : decode cX1_faultOfStory 9 = .ok (.iconst 1, 1) := by decide +kernel
theorem dX1_faultOfStory_10 : decode cX1_faultOfStory 10 = .ok (.iload_n 2, 1) := by decide +kernel
theorem dX1_faultOfStory_11 : decode cX1_faultOfStory 11 = .ok (.invokestatic 56, 3) := by decide +kernel
theorem dX1_faultOfStory_14 : decode cX1_faultOfStory 14 = .ok (.ifCond .eq 29, 3) := by decide +kernel
theorem dX1_faultOfStory_17 : decode cX1_faultOfStory 17 = .ok (.iconst 2, 1) := by decide +kernel
theorem dX1_faultOfStory_18 : decode cX1_faultOfStory 18 = .ok (.iload_n 3, 1) := by decide +kernel
theorem dX1_faultOfStory_19 : decode cX1_faultOfStory 19 = .ok (.invokestatic 56, 3) := by decide +kernel
theorem dX1_faultOfStory_22 : decode cX1_faultOfStory 22 = .ok (.ifCond .eq 21, 3) := by decide +kernel
theorem dX1_faultOfStory_25 : decode cX1_faultOfStory 25 = .ok (.iconst 3, 1) := by decide +kernel
theorem dX1_faultOfStory_26 : decode cX1_faultOfStory 26 = .ok (.iload 4, 2) := by decide +kernel
theorem dX1_faultOfStory_28 : decode cX1_faultOfStory 28 = .ok (.invokestatic 56, 3) := by decide +kernel
theorem dX1_faultOfStory_31 : decode cX1_faultOfStory 31 = .ok (.ifCond .eq 12, 3) := by decide +kernel
theorem dX1_faultOfStory_34 : decode cX1_faultOfStory 34 = .ok (.iconst 4, 1) := by decide +kernel
theorem dX1_faultOfStory_35 : decode cX1_faultOfStory 35 = .ok (.iload 5, 2) := by decide +kernel
theorem dX1_faultOfStory_37 : decode cX1_faultOfStory 37 = .ok (.invokestatic 56, 3) := by decide +kernel
theorem dX1_faultOfStory_40 : decode cX1_faultOfStory 40 = .ok (.ifCond .ne 5, 3) := by decide +kernel
theorem dX1_faultOfStory_43 : decode cX1_faultOfStory 43 = .ok (.iconst 2, 1) := by decide +kernel
theorem dX1_faultOfStory_44 : decode cX1_faultOfStory 44 = .ok (.ireturn, 1) := by decide +kernel
theorem dX1_faultOfStory_45 : decode cX1_faultOfStory 45 = .ok (.aload_n 0, 1) := by decide +kernel
theorem dX1_faultOfStory_46 : decode cX1_faultOfStory 46 = .ok (.getfield 25, 3) := by decide +kernel
theorem dX1_faultOfStory_49 : decode cX1_faultOfStory 49 = .ok (.bipush 12, 2) := by decide +kernel
theorem dX1_faultOfStory_51 : decode cX1_faultOfStory 51 = .ok (.if_icmp .lt 7, 3) := by decide +kernel
theorem dX1_faultOfStory_54 : decode cX1_faultOfStory 54 = .ok (.iconst 3, 1) := by decide +kernel
theorem dX1_faultOfStory_55 : decode cX1_faultOfStory 55 = .ok (.goto 4, 3) := by decide +kernel
theorem dX1_faultOfStory_58 : decode cX1_faultOfStory 58 = .ok (.iconst 0, 1) := by decide +kernel
theorem dX1_faultOfStory_59 : decode cX1_faultOfStory 59 = .ok (.ireturn, 1) := by decide +kernel
theorem dX1_faultOfAdvertisement_0 : decode cX1_faultOfAdvertisement 0 = .ok (.iload_n 1, 1) := by decide +kernel
theorem dX1_faultOfAdvertisement_1 : decode cX1_faultOfAdvertisement 1 = .ok (.invokestatic 53, 3) := by decide +kernel
theorem dX1_faultOfAdvertisement_4 : decode cX1_faultOfAdvertisement 4 = .ok (.ifCond .eq 51, 3) := by decide +kernel
theorem dX1_faultOfAdvertisement_7 : decode cX1_faultOfAdvertisement 7 = .ok (.iload_n 2, 1) := by decide +kernel
theorem dX1_faultOfAdvertisement_8 : decode cX1_faultOfAdvertisement 8 = .ok (.ifCond .lt 47, 3) := by decide +kernel
theorem dX1_faultOfAdvertisement_11 : decode cX1_faultOfAdvertisement 11 = .ok (.iload_n 2, 1) := by decide +kernel
theorem dX1_faultOfAdvertisement_12 : decode cX1_faultOfAdvertisement 12 = .ok (.iconst 5, 1) := by decide +kernel
theorem dX1_faultOfAdvertisement_13 : decode cX1_faultOfAdvertisement 13 = .ok (.if_icmp .ge 42, 3) := by decide +kernel
theorem dX1_faultOfAdvertisement_16 : decode cX1_faultOfAdvertisement 16 = .ok (.iload_n 3, 1) := by decide +kernel
theorem dX1_faultOfAdvertisement_17 : decode cX1_faultOfAdvertisement 17 = .ok (.ifCond .lt 38, 3) := by decide +kernel
theorem dX1_faultOfAdvertisement_20 : decode cX1_faultOfAdvertisement 20 = .ok (.iload_n 3, 1) := by decide +kernel
theorem dX1_faultOfAdvertisement_21 : decode cX1_faultOfAdvertisement 21 = .ok (.bipush 24, 2) := by decide +kernel
theorem dX1_faultOfAdvertisement_23 : decode cX1_faultOfAdvertisement 23 = .ok (.if_icmp .ge 32, 3) := by decide +kernel
theorem dX1_faultOfAdvertisement_26 : decode cX1_faultOfAdvertisement 26 = .ok (.iload 4, 2) := by decide +kernel
theorem dX1_faultOfAdvertisement_28 : decode cX1_faultOfAdvertisement 28 = .ok (.iconst 1, 1) := by decide +kernel
theorem dX1_faultOfAdvertisement_29 : decode cX1_faultOfAdvertisement 29 = .ok (.if_icmp .lt 26, 3) := by decide +kernel
theorem dX1_faultOfAdvertisement_32 : decode cX1_faultOfAdvertisement 32 = .ok (.iload 4, 2) := by decide +kernel
theorem dX1_faultOfAdvertisement_34 : decode cX1_faultOfAdvertisement 34 = .ok (.iconst 5, 1) := by decide +kernel
theorem dX1_faultOfAdvertisement_35 : decode cX1_faultOfAdvertisement 35 = .ok (.iload_n 2, 1) := by decide +kernel
theorem dX1_faultOfAdvertisement_36 : decode cX1_faultOfAdvertisement 36 = .ok (.isub, 1) := by decide +kernel
theorem dX1_faultOfAdvertisement_37 : decode cX1_faultOfAdvertisement 37 = .ok (.if_icmp .gt 18, 3) := by decide +kernel
theorem dX1_faultOfAdvertisement_40 : decode cX1_faultOfAdvertisement 40 = .ok (.iload 5, 2) := by decide +kernel
theorem dX1_faultOfAdvertisement_42 : decode cX1_faultOfAdvertisement 42 = .ok (.iconst 1, 1) := by decide +kernel
theorem dX1_faultOfAdvertisement_43 : decode cX1_faultOfAdvertisement 43 = .ok (.if_icmp .lt 12, 3) := by decide +kernel
theorem dX1_faultOfAdvertisement_46 : decode cX1_faultOfAdvertisement 46 = .ok (.iload 5, 2) := by decide +kernel
theorem dX1_faultOfAdvertisement_48 : decode cX1_faultOfAdvertisement 48 = .ok (.bipush 24, 2) := by decide +kernel
theorem dX1_faultOfAdvertisement_50 : decode cX1_faultOfAdvertisement 50 = .ok (.iload_n 3, 1) := by decide +kernel
theorem dX1_faultOfAdvertisement_51 : decode cX1_faultOfAdvertisement 51 = .ok (.isub, 1) := by decide +kernel
theorem dX1_faultOfAdvertisement_52 : decode cX1_faultOfAdvertisement 52 = .ok (.if_icmp .le 5, 3) := by decide +kernel
theorem dX1_faultOfAdvertisement_55 : decode cX1_faultOfAdvertisement 55 = .ok (.iconst 1, 1) := by decide +kernel
theorem dX1_faultOfAdvertisement_56 : decode cX1_faultOfAdvertisement 56 = .ok (.ireturn, 1) := by decide +kernel
theorem dX1_faultOfAdvertisement_57 : decode cX1_faultOfAdvertisement 57 = .ok (.iload 6, 2) := by decide +kernel
theorem dX1_faultOfAdvertisement_59 : decode cX1_faultOfAdvertisement 59 = .ok (.iconst 1, 1) := by decide +kernel
theorem dX1_faultOfAdvertisement_60 : decode cX1_faultOfAdvertisement 60 = .ok (.if_icmp .lt 11, 3) := by decide +kernel
theorem dX1_faultOfAdvertisement_63 : decode cX1_faultOfAdvertisement 63 = .ok (.iload 6, 2) := by decide +kernel
theorem dX1_faultOfAdvertisement_65 : decode cX1_faultOfAdvertisement 65 = .ok (.sipush 999, 3) := by decide +kernel
theorem dX1_faultOfAdvertisement_68 : decode cX1_faultOfAdvertisement 68 = .ok (.if_icmp .le 5, 3) := by decide +kernel
theorem dX1_faultOfAdvertisement_71 : decode cX1_faultOfAdvertisement 71 = .ok (.iconst 2, 1) := by decide +kernel
theorem dX1_faultOfAdvertisement_72 : decode cX1_faultOfAdvertisement 72 = .ok (.ireturn, 1) := by decide +kernel
theorem dX1_faultOfAdvertisement_73 : decode cX1_faultOfAdvertisement 73 = .ok (.aload_n 0, 1) := by decide +kernel
theorem dX1_faultOfAdvertisement_74 : decode cX1_faultOfAdvertisement 74 = .ok (.getfield 29, 3) := by decide +kernel
theorem dX1_faultOfAdvertisement_77 : decode cX1_faultOfAdvertisement 77 = .ok (.bipush 8, 2) := by decide +kernel
theorem dX1_faultOfAdvertisement_79 : decode cX1_faultOfAdvertisement 79 = .ok (.if_icmp .ge 17, 3) := by decide +kernel
theorem dX1_faultOfAdvertisement_82 : decode cX1_faultOfAdvertisement 82 = .ok (.aload_n 0, 1) := by decide +kernel
theorem dX1_faultOfAdvertisement_83 : decode cX1_faultOfAdvertisement 83 = .ok (.iload_n 1, 1) := by decide +kernel
theorem dX1_faultOfAdvertisement_84 : decode cX1_faultOfAdvertisement 84 = .ok (.iload_n 2, 1) := by decide +kernel
theorem dX1_faultOfAdvertisement_85 : decode cX1_faultOfAdvertisement 85 = .ok (.iload_n 3, 1) := by decide +kernel
theorem dX1_faultOfAdvertisement_86 : decode cX1_faultOfAdvertisement 86 = .ok (.iload 4, 2) := by decide +kernel
theorem dX1_faultOfAdvertisement_88 : decode cX1_faultOfAdvertisement 88 = .ok (.iload 5, 2) := by decide +kernel
theorem dX1_faultOfAdvertisement_90 : decode cX1_faultOfAdvertisement 90 = .ok (.invokevirtual 60, 3) := by decide +kernel
theorem dX1_faultOfAdvertisement_93 : decode cX1_faultOfAdvertisement 93 = .ok (.ifCond .eq 5, 3) := by decide +kernel
theorem dX1_faultOfAdvertisement_96 : decode cX1_faultOfAdvertisement 96 = .ok (.iconst 3, 1) := by decide +kernel
theorem dX1_faultOfAdvertisement_97 : decode cX1_faultOfAdvertisement 97 = .ok (.ireturn, 1) := by decide +kernel
theorem dX1_faultOfAdvertisement_98 : decode cX1_faultOfAdvertisement 98 = .ok (.iconst 0, 1) := by decide +kernel
theorem dX1_faultOfAdvertisement_99 : decode cX1_faultOfAdvertisement 99 = .ok (.ireturn, 1) := by decide +kernel
theorem dX1_isTaken_0 : decode cX1_isTaken 0 = .ok (.iconst 0, 1) := by decide +kernel
theorem dX1_isTaken_1 : decode cX1_isTaken 1 = .ok (.istore 6, 2) := by decide +kernel
theorem dX1_isTaken_3 : decode cX1_isTaken 3 = .ok (.iload 6, 2) := by decide +kernel
theorem dX1_isTaken_5 : decode cX1_isTaken 5 = .ok (.bipush 8, 2) := by decide +kernel
theorem dX1_isTaken_7 : decode cX1_isTaken 7 = .ok (.if_icmp .ge 78, 3) := by decide +kernel
theorem dX1_isTaken_10 : decode cX1_isTaken 10 = .ok (.aload_n 0, 1) := by decide +kernel
theorem dX1_isTaken_11 : decode cX1_isTaken 11 = .ok (.getfield 19, 3) := by decide +kernel
theorem dX1_isTaken_14 : decode cX1_isTaken 14 = .ok (.iload 6, 2) := by decide +kernel
theorem dX1_isTaken_16 : decode cX1_isTaken 16 = .ok (.baload, 1) := by decide +kernel
theorem dX1_isTaken_17 : decode cX1_isTaken 17 = .ok (.ifCond .eq 62, 3) := by decide +kernel
theorem dX1_isTaken_20 : decode cX1_isTaken 20 = .ok (.aload_n 0, 1) := by decide +kernel
theorem dX1_isTaken_21 : decode cX1_isTaken 21 = .ok (.iload 6, 2) := by decide +kernel
theorem dX1_isTaken_23 : decode cX1_isTaken 23 = .ok (.iconst 0, 1) := by decide +kernel
theorem dX1_isTaken_24 : decode cX1_isTaken 24 = .ok (.invokevirtual 43, 3) := by decide +kernel
theorem dX1_isTaken_27 : decode cX1_isTaken 27 = .ok (.iload_n 1, 1) := by decide +kernel
theorem dX1_isTaken_28 : decode cX1_isTaken 28 = .ok (.if_icmp .ne 51, 3) := by decide +kernel
theorem dX1_isTaken_31 : decode cX1_isTaken 31 = .ok (.iload_n 2, 1) := by decide +kernel
theorem dX1_isTaken_32 : decode cX1_isTaken 32 = .ok (.iload 4, 2) := by decide +kernel
theorem dX1_isTaken_34 : decode cX1_isTaken 34 = .ok (.aload_n 0, 1) := by decide +kernel
theorem dX1_isTaken_35 : decode cX1_isTaken 35 = .ok (.iload 6, 2) := by decide +kernel
theorem dX1_isTaken_37 : decode cX1_isTaken 37 = .ok (.iconst 1, 1) := by decide +kernel
theorem dX1_isTaken_38 : decode cX1_isTaken 38 = .ok (.invokevirtual 43, 3) := by decide +kernel
theorem dX1_isTaken_41 : decode cX1_isTaken 41 = .ok (.aload_n 0, 1) := by decide +kernel
theorem dX1_isTaken_42 : decode cX1_isTaken 42 = .ok (.iload 6, 2) := by decide +kernel
theorem dX1_isTaken_44 : decode cX1_isTaken 44 = .ok (.iconst 3, 1) := by decide +kernel
theorem dX1_isTaken_45 : decode cX1_isTaken 45 = .ok (.invokevirtual 43, 3) := by decide +kernel
theorem dX1_isTaken_48 : decode cX1_isTaken 48 = .ok (.invokestatic 64, 3) := by decide +kernel
theorem dX1_isTaken_51 : decode cX1_isTaken 51 = .ok (.ifCond .eq 28, 3) := by decide +kernel
theorem dX1_isTaken_54 : decode cX1_isTaken 54 = .ok (.iload_n 3, 1) := by decide +kernel
theorem dX1_isTaken_55 : decode cX1_isTaken 55 = .ok (.iload 5, 2) := by decide +kernel
theorem dX1_isTaken_57 : decode cX1_isTaken 57 = .ok (.aload_n 0, 1) := by decide +kernel
theorem dX1_isTaken_58 : decode cX1_isTaken 58 = .ok (.iload 6, 2) := by decide +kernel
theorem dX1_isTaken_60 : decode cX1_isTaken 60 = .ok (.iconst 2, 1) := by decide +kernel
theorem dX1_isTaken_61 : decode cX1_isTaken 61 = .ok (.invokevirtual 43, 3) := by decide +kernel
theorem dX1_isTaken_64 : decode cX1_isTaken 64 = .ok (.aload_n 0, 1) := by decide +kernel
theorem dX1_isTaken_65 : decode cX1_isTaken 65 = .ok (.iload 6, 2) := by decide +kernel
theorem dX1_isTaken_67 : decode cX1_isTaken 67 = .ok (.iconst 4, 1) := by decide +kernel
theorem dX1_isTaken_68 : decode cX1_isTaken 68 = .ok (.invokevirtual 43, 3) := by decide +kernel
theorem dX1_isTaken_71 : decode cX1_isTaken 71 = .ok (.invokestatic 64, 3) := by decide +kernel
theorem dX1_isTaken_74 : decode cX1_isTaken 74 = .ok (.ifCond .eq 5, 3) := by decide +kernel
theorem dX1_isTaken_77 : decode cX1_isTaken 77 = .ok (.iconst 1, 1) := by decide +kernel
theorem dX1_isTaken_78 : decode cX1_isTaken 78 = .ok (.ireturn, 1) := by decide +kernel
theorem dX1_isTaken_79 : decode cX1_isTaken 79 = .ok (.iinc 6 1, 3) := by decide +kernel
theorem dX1_isTaken_82 : decode cX1_isTaken 82 = .ok (.goto (-79), 3) := by decide +kernel
theorem dX1_isTaken_85 : decode cX1_isTaken 85 = .ok (.iconst 0, 1) := by decide +kernel
theorem dX1_isTaken_86 : decode cX1_isTaken 86 = .ok (.ireturn, 1) := by decide +kernel
theorem dX1_overlap_0 : decode cX1_overlap 0 = .ok (.iload_n 0, 1) := by decide +kernel
theorem dX1_overlap_1 : decode cX1_overlap 1 = .ok (.iload_n 2, 1) := by decide +kernel
theorem dX1_overlap_2 : decode cX1_overlap 2 = .ok (.iload_n 3, 1) := by decide +kernel
theorem dX1_overlap_3 : decode cX1_overlap 3 = .ok (.iadd, 1) := by decide +kernel
theorem dX1_overlap_4 : decode cX1_overlap 4 = .ok (.if_icmp .ge 14, 3) := by decide +kernel
theorem dX1_overlap_7 : decode cX1_overlap 7 = .ok (.iload_n 2, 1) := by decide +kernel
theorem dX1_overlap_8 : decode cX1_overlap 8 = .ok (.iload_n 0, 1) := by decide +kernel
theorem dX1_overlap_9 : decode cX1_overlap 9 = .ok (.iload_n 1, 1) := by decide +kernel
theorem dX1_overlap_10 : decode cX1_overlap 10 = .ok (.iadd, 1) := by decide +kernel
theorem dX1_overlap_11 : decode cX1_overlap 11 = .ok (.if_icmp .ge 7, 3) := by decide +kernel
theorem dX1_overlap_14 : decode cX1_overlap 14 = .ok (.iconst 1, 1) := by decide +kernel
theorem dX1_overlap_15 : decode cX1_overlap 15 = .ok (.goto 4, 3) := by decide +kernel
theorem dX1_overlap_18 : decode cX1_overlap 18 = .ok (.iconst 0, 1) := by decide +kernel
theorem dX1_overlap_19 : decode cX1_overlap 19 = .ok (.ireturn, 1) := by decide +kernel
theorem dX1_faultOfPhoto_0 : decode cX1_faultOfPhoto 0 = .ok (.aload_n 0, 1) := by decide +kernel
theorem dX1_faultOfPhoto_1 : decode cX1_faultOfPhoto 1 = .ok (.iload_n 1, 1) := by decide +kernel
theorem dX1_faultOfPhoto_2 : decode cX1_faultOfPhoto 2 = .ok (.invokevirtual 68, 3) := by decide +kernel
theorem dX1_faultOfPhoto_5 : decode cX1_faultOfPhoto 5 = .ok (.ifCond .ne 5, 3) := by decide +kernel
theorem dX1_faultOfPhoto_8 : decode cX1_faultOfPhoto 8 = .ok (.iconst 1, 1) := by decide +kernel
theorem dX1_faultOfPhoto_9 : decode cX1_faultOfPhoto 9 = .ok (.ireturn, 1) := by decide +kernel
theorem dX1_faultOfPhoto_10 : decode cX1_faultOfPhoto 10 = .ok (.iload_n 2, 1) := by decide +kernel
theorem dX1_faultOfPhoto_11 : decode cX1_faultOfPhoto 11 = .ok (.ifCond .ne 13, 3) := by decide +kernel
theorem dX1_faultOfPhoto_14 : decode cX1_faultOfPhoto 14 = .ok (.iload_n 3, 1) := by decide +kernel
theorem dX1_faultOfPhoto_15 : decode cX1_faultOfPhoto 15 = .ok (.ifCond .ne 7, 3) := by decide +kernel
theorem dX1_faultOfPhoto_18 : decode cX1_faultOfPhoto 18 = .ok (.iconst 0, 1) := by decide +kernel
theorem dX1_faultOfPhoto_19 : decode cX1_faultOfPhoto 19 = .ok (.goto 4, 3) := by decide +kernel
theorem dX1_faultOfPhoto_22 : decode cX1_faultOfPhoto 22 = .ok (.iconst 2, 1) := by decide +kernel
theorem dX1_faultOfPhoto_23 : decode cX1_faultOfPhoto 23 = .ok (.ireturn, 1) := by decide +kernel
theorem dX1_faultOfPhoto_24 : decode cX1_faultOfPhoto 24 = .ok (.iload_n 2, 1) := by decide +kernel
theorem dX1_faultOfPhoto_25 : decode cX1_faultOfPhoto 25 = .ok (.iconst 2, 1) := by decide +kernel
theorem dX1_faultOfPhoto_26 : decode cX1_faultOfPhoto 26 = .ok (.if_icmp .lt 18, 3) := by decide +kernel
theorem dX1_faultOfPhoto_29 : decode cX1_faultOfPhoto 29 = .ok (.iload_n 2, 1) := by decide +kernel
theorem dX1_faultOfPhoto_30 : decode cX1_faultOfPhoto 30 = .ok (.bipush 8, 2) := by decide +kernel
theorem dX1_faultOfPhoto_32 : decode cX1_faultOfPhoto 32 = .ok (.if_icmp .gt 12, 3) := by decide +kernel
theorem dX1_faultOfPhoto_35 : decode cX1_faultOfPhoto 35 = .ok (.iload_n 3, 1) := by decide +kernel
theorem dX1_faultOfPhoto_36 : decode cX1_faultOfPhoto 36 = .ok (.ifCond .lt 8, 3) := by decide +kernel
theorem dX1_faultOfPhoto_39 : decode cX1_faultOfPhoto 39 = .ok (.iload_n 3, 1) := by decide +kernel
theorem dX1_faultOfPhoto_40 : decode cX1_faultOfPhoto 40 = .ok (.iconst 2, 1) := by decide +kernel
theorem dX1_faultOfPhoto_41 : decode cX1_faultOfPhoto 41 = .ok (.if_icmp .le 5, 3) := by decide +kernel
theorem dX1_faultOfPhoto_44 : decode cX1_faultOfPhoto 44 = .ok (.iconst 2, 1) := by decide +kernel
theorem dX1_faultOfPhoto_45 : decode cX1_faultOfPhoto 45 = .ok (.ireturn, 1) := by decide +kernel
theorem dX1_faultOfPhoto_46 : decode cX1_faultOfPhoto 46 = .ok (.iconst 0, 1) := by decide +kernel
theorem dX1_faultOfPhoto_47 : decode cX1_faultOfPhoto 47 = .ok (.ireturn, 1) := by decide +kernel
theorem dX1_putStory_0 : decode cX1_putStory 0 = .ok (.aload_n 0, 1) := by decide +kernel
theorem dX1_putStory_1 : decode cX1_putStory 1 = .ok (.getfield 25, 3) := by decide +kernel
theorem dX1_putStory_4 : decode cX1_putStory 4 = .ok (.istore 6, 2) := by decide +kernel
theorem dX1_putStory_6 : decode cX1_putStory 6 = .ok (.iload 6, 2) := by decide +kernel
theorem dX1_putStory_8 : decode cX1_putStory 8 = .ok (.invokestatic 32, 3) := by decide +kernel
theorem dX1_putStory_11 : decode cX1_putStory 11 = .ok (.ifCond .ne 5, 3) := by decide +kernel
theorem dX1_putStory_14 : decode cX1_putStory 14 = .ok (.iconst (-1), 1) := by decide +kernel
theorem dX1_putStory_15 : decode cX1_putStory 15 = .ok (.ireturn, 1) := by decide +kernel
theorem dX1_putStory_16 : decode cX1_putStory 16 = .ok (.aload_n 0, 1) := by decide +kernel
theorem dX1_putStory_17 : decode cX1_putStory 17 = .ok (.iload 6, 2) := by decide +kernel
theorem dX1_putStory_19 : decode cX1_putStory 19 = .ok (.iconst 1, 1) := by decide +kernel
theorem dX1_putStory_20 : decode cX1_putStory 20 = .ok (.iadd, 1) := by decide +kernel
theorem dX1_putStory_21 : decode cX1_putStory 21 = .ok (.putfield 25, 3) := by decide +kernel
theorem dX1_putStory_24 : decode cX1_putStory 24 = .ok (.aload_n 0, 1) := by decide +kernel
theorem dX1_putStory_25 : decode cX1_putStory 25 = .ok (.getfield 9, 3) := by decide +kernel
theorem dX1_putStory_28 : decode cX1_putStory 28 = .ok (.iload 6, 2) := by decide +kernel
theorem dX1_putStory_30 : decode cX1_putStory 30 = .ok (.iconst 1, 1) := by decide +kernel
theorem dX1_putStory_31 : decode cX1_putStory 31 = .ok (.bastore, 1) := by decide +kernel
theorem dX1_putStory_32 : decode cX1_putStory 32 = .ok (.aload_n 0, 1) := by decide +kernel
theorem dX1_putStory_33 : decode cX1_putStory 33 = .ok (.iload 6, 2) := by decide +kernel
theorem dX1_putStory_35 : decode cX1_putStory 35 = .ok (.iconst 0, 1) := by decide +kernel
theorem dX1_putStory_36 : decode cX1_putStory 36 = .ok (.iload_n 1, 1) := by decide +kernel
theorem dX1_putStory_37 : decode cX1_putStory 37 = .ok (.invokevirtual 71, 3) := by decide +kernel
theorem dX1_putStory_40 : decode cX1_putStory 40 = .ok (.aload_n 0, 1) := by decide +kernel
theorem dX1_putStory_41 : decode cX1_putStory 41 = .ok (.iload 6, 2) := by decide +kernel
theorem dX1_putStory_43 : decode cX1_putStory 43 = .ok (.iconst 1, 1) := by decide +kernel
theorem dX1_putStory_44 : decode cX1_putStory 44 = .ok (.iload_n 2, 1) := by decide +kernel
theorem dX1_putStory_45 : decode cX1_putStory 45 = .ok (.invokevirtual 71, 3) := by decide +kernel
theorem dX1_putStory_48 : decode cX1_putStory 48 = .ok (.aload_n 0, 1) := by decide +kernel
theorem dX1_putStory_49 : decode cX1_putStory 49 = .ok (.iload 6, 2) := by decide +kernel
theorem dX1_putStory_51 : decode cX1_putStory 51 = .ok (.iconst 2, 1) := by decide +kernel
theorem dX1_putStory_52 : decode cX1_putStory 52 = .ok (.iload_n 3, 1) := by decide +kernel
theorem dX1_putStory_53 : decode cX1_putStory 53 = .ok (.invokevirtual 71, 3) := by decide +kernel
theorem dX1_putStory_56 : decode cX1_putStory 56 = .ok (.aload_n 0, 1) := by decide +kernel
theorem dX1_putStory_57 : decode cX1_putStory 57 = .ok (.iload 6, 2) := by decide +kernel
theorem dX1_putStory_59 : decode cX1_putStory 59 = .ok (.iconst 3, 1) := by decide +kernel
theorem dX1_putStory_60 : decode cX1_putStory 60 = .ok (.iload 4, 2) := by decide +kernel
theorem dX1_putStory_62 : decode cX1_putStory 62 = .ok (.invokevirtual 71, 3) := by decide +kernel
theorem dX1_putStory_65 : decode cX1_putStory 65 = .ok (.aload_n 0, 1) := by decide +kernel
theorem dX1_putStory_66 : decode cX1_putStory 66 = .ok (.iload 6, 2) := by decide +kernel
theorem dX1_putStory_68 : decode cX1_putStory 68 = .ok (.iconst 4, 1) := by decide +kernel
theorem dX1_putStory_69 : decode cX1_putStory 69 = .ok (.iload 5, 2) := by decide +kernel
theorem dX1_putStory_71 : decode cX1_putStory 71 = .ok (.invokevirtual 71, 3) := by decide +kernel
theorem dX1_putStory_74 : decode cX1_putStory 74 = .ok (.aload_n 0, 1) := by decide +kernel
theorem dX1_putStory_75 : decode cX1_putStory 75 = .ok (.iload 6, 2) := by decide +kernel
theorem dX1_putStory_77 : decode cX1_putStory 77 = .ok (.iconst 0, 1) := by decide +kernel
theorem dX1_putStory_78 : decode cX1_putStory 78 = .ok (.iconst 0, 1) := by decide +kernel
theorem dX1_putStory_79 : decode cX1_putStory 79 = .ok (.invokevirtual 75, 3) := by decide +kernel
theorem dX1_putStory_82 : decode cX1_putStory 82 = .ok (.aload_n 0, 1) := by decide +kernel
theorem dX1_putStory_83 : decode cX1_putStory 83 = .ok (.iload 6, 2) := by decide +kernel
theorem dX1_putStory_85 : decode cX1_putStory 85 = .ok (.iconst 0, 1) := by decide +kernel
theorem dX1_putStory_86 : decode cX1_putStory 86 = .ok (.invokevirtual 78, 3) := by decide +kernel
theorem dX1_putStory_89 : decode cX1_putStory 89 = .ok (.iload 6, 2) := by decide +kernel
theorem dX1_putStory_91 : decode cX1_putStory 91 = .ok (.ireturn, 1) := by decide +kernel
theorem dX1_putAdvertisement_0 : decode cX1_putAdvertisement 0 = .ok (.aload_n 0, 1) := by decide +kernel
theorem dX1_putAdvertisement_1 : decode cX1_putAdvertisement 1 = .ok (.getfield 29, 3) := by decide +kernel
theorem dX1_putAdvertisement_4 : decode cX1_putAdvertisement 4 = .ok (.istore 7, 2) := by decide +kernel
theorem dX1_putAdvertisement_6 : decode cX1_putAdvertisement 6 = .ok (.iload 7, 2) := by decide +kernel
theorem dX1_putAdvertisement_8 : decode cX1_putAdvertisement 8 = .ok (.invokestatic 36, 3) := by decide +kernel
theorem dX1_putAdvertisement_11 : decode cX1_putAdvertisement 11 = .ok (.ifCond .ne 5, 3) := by decide +kernel
theorem dX1_putAdvertisement_14 : decode cX1_putAdvertisement 14 = .ok (.iconst (-1), 1) := by decide +kernel
theorem dX1_putAdvertisement_15 : decode cX1_putAdvertisement 15 = .ok (.ireturn, 1) := by decide +kernel
theorem dX1_putAdvertisement_16 : decode cX1_putAdvertisement 16 = .ok (.aload_n 0, 1) := by decide +kernel
theorem dX1_putAdvertisement_17 : decode cX1_putAdvertisement 17 = .ok (.iload 7, 2) := by decide +kernel
theorem dX1_putAdvertisement_19 : decode cX1_putAdvertisement 19 = .ok (.iconst 1, 1) := by decide +kernel
theorem dX1_putAdvertisement_20 : decode cX1_putAdvertisement 20 = .ok (.iadd, 1) := by decide +kernel
theorem dX1_putAdvertisement_21 : decode cX1_putAdvertisement 21 = .ok (.putfield 29, 3) := by decide +kernel
theorem dX1_putAdvertisement_24 : decode cX1_putAdvertisement 24 = .ok (.aload_n 0, 1) := by decide +kernel
theorem dX1_putAdvertisement_25 : decode cX1_putAdvertisement 25 = .ok (.getfield 19, 3) := by decide +kernel
theorem dX1_putAdvertisement_28 : decode cX1_putAdvertisement 28 = .ok (.iload 7, 2) := by decide +kernel
theorem dX1_putAdvertisement_30 : decode cX1_putAdvertisement 30 = .ok (.iconst 1, 1) := by decide +kernel
theorem dX1_putAdvertisement_31 : decode cX1_putAdvertisement 31 = .ok (.bastore, 1) := by decide +kernel
theorem dX1_putAdvertisement_32 : decode cX1_putAdvertisement 32 = .ok (.iload 7, 2) := by decide +kernel
theorem dX1_putAdvertisement_34 : decode cX1_putAdvertisement 34 = .ok (.bipush 6, 2) := by decide +kernel
theorem dX1_putAdvertisement_36 : decode cX1_putAdvertisement 36 = .ok (.imul, 1) := by decide +kernel
theorem dX1_putAdvertisement_37 : decode cX1_putAdvertisement 37 = .ok (.istore 8, 2) := by decide +kernel
theorem dX1_putAdvertisement_39 : decode cX1_putAdvertisement 39 = .ok (.aload_n 0, 1) := by decide +kernel
theorem dX1_putAdvertisement_40 : decode cX1_putAdvertisement 40 = .ok (.getfield 22, 3) := by decide +kernel
theorem dX1_putAdvertisement_43 : decode cX1_putAdvertisement 43 = .ok (.iload 8, 2) := by decide +kernel
theorem dX1_putAdvertisement_45 : decode cX1_putAdvertisement 45 = .ok (.iconst 0, 1) := by decide +kernel
theorem dX1_putAdvertisement_46 : decode cX1_putAdvertisement 46 = .ok (.iadd, 1) := by decide +kernel
theorem dX1_putAdvertisement_47 : decode cX1_putAdvertisement 47 = .ok (.iload_n 1, 1) := by decide +kernel
theorem dX1_putAdvertisement_48 : decode cX1_putAdvertisement 48 = .ok (.iastore, 1) := by decide +kernel
theorem dX1_putAdvertisement_49 : decode cX1_putAdvertisement 49 = .ok (.aload_n 0, 1) := by decide +kernel
theorem dX1_putAdvertisement_50 : decode cX1_putAdvertisement 50 = .ok (.getfield 22, 3) := by decide +kernel
theorem dX1_putAdvertisement_53 : decode cX1_putAdvertisement 53 = .ok (.iload 8, 2) := by decide +kernel
theorem dX1_putAdvertisement_55 : decode cX1_putAdvertisement 55 = .ok (.iconst 1, 1) := by decide +kernel
theorem dX1_putAdvertisement_56 : decode cX1_putAdvertisement 56 = .ok (.iadd, 1) := by decide +kernel
theorem dX1_putAdvertisement_57 : decode cX1_putAdvertisement 57 = .ok (.iload_n 2, 1) := by decide +kernel
theorem dX1_putAdvertisement_58 : decode cX1_putAdvertisement 58 = .ok (.iastore, 1) := by decide +kernel
theorem dX1_putAdvertisement_59 : decode cX1_putAdvertisement 59 = .ok (.aload_n 0, 1) := by decide +kernel
theorem dX1_putAdvertisement_60 : decode cX1_putAdvertisement 60 = .ok (.getfield 22, 3) := by decide +kernel
theorem dX1_putAdvertisement_63 : decode cX1_putAdvertisement 63 = .ok (.iload 8, 2) := by decide +kernel
theorem dX1_putAdvertisement_65 : decode cX1_putAdvertisement 65 = .ok (.iconst 2, 1) := by decide +kernel
theorem dX1_putAdvertisement_66 : decode cX1_putAdvertisement 66 = .ok (.iadd, 1) := by decide +kernel
theorem dX1_putAdvertisement_67 : decode cX1_putAdvertisement 67 = .ok (.iload_n 3, 1) := by decide +kernel
theorem dX1_putAdvertisement_68 : decode cX1_putAdvertisement 68 = .ok (.iastore, 1) := by decide +kernel
theorem dX1_putAdvertisement_69 : decode cX1_putAdvertisement 69 = .ok (.aload_n 0, 1) := by decide +kernel
theorem dX1_putAdvertisement_70 : decode cX1_putAdvertisement 70 = .ok (.getfield 22, 3) := by decide +kernel
theorem dX1_putAdvertisement_73 : decode cX1_putAdvertisement 73 = .ok (.iload 8, 2) := by decide +kernel
theorem dX1_putAdvertisement_75 : decode cX1_putAdvertisement 75 = .ok (.iconst 3, 1) := by decide +kernel
theorem dX1_putAdvertisement_76 : decode cX1_putAdvertisement 76 = .ok (.iadd, 1) := by decide +kernel
theorem dX1_putAdvertisement_77 : decode cX1_putAdvertisement 77 = .ok (.iload 4, 2) := by decide +kernel
theorem dX1_putAdvertisement_79 : decode cX1_putAdvertisement 79 = .ok (.iastore, 1) := by decide +kernel
theorem dX1_putAdvertisement_80 : decode cX1_putAdvertisement 80 = .ok (.aload_n 0, 1) := by decide +kernel
theorem dX1_putAdvertisement_81 : decode cX1_putAdvertisement 81 = .ok (.getfield 22, 3) := by decide +kernel
theorem dX1_putAdvertisement_84 : decode cX1_putAdvertisement 84 = .ok (.iload 8, 2) := by decide +kernel
theorem dX1_putAdvertisement_86 : decode cX1_putAdvertisement 86 = .ok (.iconst 4, 1) := by decide +kernel
theorem dX1_putAdvertisement_87 : decode cX1_putAdvertisement 87 = .ok (.iadd, 1) := by decide +kernel
theorem dX1_putAdvertisement_88 : decode cX1_putAdvertisement 88 = .ok (.iload 5, 2) := by decide +kernel
theorem dX1_putAdvertisement_90 : decode cX1_putAdvertisement 90 = .ok (.iastore, 1) := by decide +kernel
theorem dX1_putAdvertisement_91 : decode cX1_putAdvertisement 91 = .ok (.aload_n 0, 1) := by decide +kernel
theorem dX1_putAdvertisement_92 : decode cX1_putAdvertisement 92 = .ok (.getfield 22, 3) := by decide +kernel
theorem dX1_putAdvertisement_95 : decode cX1_putAdvertisement 95 = .ok (.iload 8, 2) := by decide +kernel
theorem dX1_putAdvertisement_97 : decode cX1_putAdvertisement 97 = .ok (.iconst 5, 1) := by decide +kernel
theorem dX1_putAdvertisement_98 : decode cX1_putAdvertisement 98 = .ok (.iadd, 1) := by decide +kernel
theorem dX1_putAdvertisement_99 : decode cX1_putAdvertisement 99 = .ok (.iload 6, 2) := by decide +kernel
theorem dX1_putAdvertisement_101 : decode cX1_putAdvertisement 101 = .ok (.iastore, 1) := by decide +kernel
theorem dX1_putAdvertisement_102 : decode cX1_putAdvertisement 102 = .ok (.iload 7, 2) := by decide +kernel
theorem dX1_putAdvertisement_104 : decode cX1_putAdvertisement 104 = .ok (.ireturn, 1) := by decide +kernel
theorem dX1_putStoryNumber_0 : decode cX1_putStoryNumber 0 = .ok (.iload_n 1, 1) := by decide +kernel
theorem dX1_putStoryNumber_1 : decode cX1_putStoryNumber 1 = .ok (.invokestatic 32, 3) := by decide +kernel
theorem dX1_putStoryNumber_4 : decode cX1_putStoryNumber 4 = .ok (.ifCond .eq 25, 3) := by decide +kernel
theorem dX1_putStoryNumber_7 : decode cX1_putStoryNumber 7 = .ok (.iload_n 2, 1) := by decide +kernel
theorem dX1_putStoryNumber_8 : decode cX1_putStoryNumber 8 = .ok (.ifCond .lt 21, 3) := by decide +kernel
theorem dX1_putStoryNumber_11 : decode cX1_putStoryNumber 11 = .ok (.iload_n 2, 1) := by decide +kernel
theorem dX1_putStoryNumber_12 : decode cX1_putStoryNumber 12 = .ok (.bipush 8, 2) := by decide +kernel
theorem dX1_putStoryNumber_14 : decode cX1_putStoryNumber 14 = .ok (.if_icmp .ge 15, 3) := by decide +kernel
theorem dX1_putStoryNumber_17 : decode cX1_putStoryNumber 17 = .ok (.aload_n 0, 1) := by decide +kernel
theorem dX1_putStoryNumber_18 : decode cX1_putStoryNumber 18 = .ok (.getfield 15, 3) := by decide +kernel
theorem dX1_putStoryNumber_21 : decode cX1_putStoryNumber 21 = .ok (.iload_n 1, 1) := by decide +kernel
theorem dX1_putStoryNumber_22 : decode cX1_putStoryNumber 22 = .ok (.bipush 8, 2) := by decide +kernel
theorem dX1_putStoryNumber_24 : decode cX1_putStoryNumber 24 = .ok (.imul, 1) := by decide +kernel
theorem dX1_putStoryNumber_25 : decode cX1_putStoryNumber 25 = .ok (.iload_n 2, 1) := by decide +kernel
theorem dX1_putStoryNumber_26 : decode cX1_putStoryNumber 26 = .ok (.iadd, 1) := by decide +kernel
theorem dX1_putStoryNumber_27 : decode cX1_putStoryNumber 27 = .ok (.iload_n 3, 1) := by decide +kernel
theorem dX1_putStoryNumber_28 : decode cX1_putStoryNumber 28 = .ok (.iastore, 1) := by decide +kernel
theorem dX1_putStoryNumber_29 : decode cX1_putStoryNumber 29 = .ok (.return_, 1) := by decide +kernel
theorem dX1_putPhoto_0 : decode cX1_putPhoto 0 = .ok (.aload_n 0, 1) := by decide +kernel
theorem dX1_putPhoto_1 : decode cX1_putPhoto 1 = .ok (.iload_n 1, 1) := by decide +kernel
theorem dX1_putPhoto_2 : decode cX1_putPhoto 2 = .ok (.iconst 5, 1) := by decide +kernel
theorem dX1_putPhoto_3 : decode cX1_putPhoto 3 = .ok (.iload_n 2, 1) := by decide +kernel
theorem dX1_putPhoto_4 : decode cX1_putPhoto 4 = .ok (.invokevirtual 71, 3) := by decide +kernel
theorem dX1_putPhoto_7 : decode cX1_putPhoto 7 = .ok (.aload_n 0, 1) := by decide +kernel
theorem dX1_putPhoto_8 : decode cX1_putPhoto 8 = .ok (.iload_n 1, 1) := by decide +kernel
theorem dX1_putPhoto_9 : decode cX1_putPhoto 9 = .ok (.bipush 6, 2) := by decide +kernel
theorem dX1_putPhoto_11 : decode cX1_putPhoto 11 = .ok (.iload_n 3, 1) := by decide +kernel
theorem dX1_putPhoto_12 : decode cX1_putPhoto 12 = .ok (.invokevirtual 71, 3) := by decide +kernel
theorem dX1_putPhoto_15 : decode cX1_putPhoto 15 = .ok (.return_, 1) := by decide +kernel
theorem dX1_putLate_0 : decode cX1_putLate 0 = .ok (.aload_n 0, 1) := by decide +kernel
theorem dX1_putLate_1 : decode cX1_putLate 1 = .ok (.iload_n 1, 1) := by decide +kernel
theorem dX1_putLate_2 : decode cX1_putLate 2 = .ok (.bipush 7, 2) := by decide +kernel
theorem dX1_putLate_4 : decode cX1_putLate 4 = .ok (.iload_n 2, 1) := by decide +kernel
theorem dX1_putLate_5 : decode cX1_putLate 5 = .ok (.ifCond .eq 7, 3) := by decide +kernel
theorem dX1_putLate_8 : decode cX1_putLate 8 = .ok (.iconst 1, 1) := by decide +kernel
theorem dX1_putLate_9 : decode cX1_putLate 9 = .ok (.goto 4, 3) := by decide +kernel
theorem dX1_putLate_12 : decode cX1_putLate 12 = .ok (.iconst 0, 1) := by decide +kernel
theorem dX1_putLate_13 : decode cX1_putLate 13 = .ok (.invokevirtual 71, 3) := by decide +kernel
theorem dX1_putLate_16 : decode cX1_putLate 16 = .ok (.return_, 1) := by decide +kernel
theorem dX1_dropStory_0 : decode cX1_dropStory 0 = .ok (.iload_n 1, 1) := by decide +kernel
theorem dX1_dropStory_1 : decode cX1_dropStory 1 = .ok (.invokestatic 32, 3) := by decide +kernel
theorem dX1_dropStory_4 : decode cX1_dropStory 4 = .ok (.ifCond .eq 10, 3) := by decide +kernel
theorem dX1_dropStory_7 : decode cX1_dropStory 7 = .ok (.aload_n 0, 1) := by decide +kernel
theorem dX1_dropStory_8 : decode cX1_dropStory 8 = .ok (.getfield 9, 3) := by decide +kernel
theorem dX1_dropStory_11 : decode cX1_dropStory 11 = .ok (.iload_n 1, 1) := by decide +kernel
theorem dX1_dropStory_12 : decode cX1_dropStory 12 = .ok (.iconst 0, 1) := by decide +kernel
theorem dX1_dropStory_13 : decode cX1_dropStory 13 = .ok (.bastore, 1) := by decide +kernel
theorem dX1_dropStory_14 : decode cX1_dropStory 14 = .ok (.return_, 1) := by decide +kernel
theorem dX1_dropAdvertisement_0 : decode cX1_dropAdvertisement 0 = .ok (.iload_n 1, 1) := by decide +kernel
theorem dX1_dropAdvertisement_1 : decode cX1_dropAdvertisement 1 = .ok (.invokestatic 36, 3) := by decide +kernel
theorem dX1_dropAdvertisement_4 : decode cX1_dropAdvertisement 4 = .ok (.ifCond .eq 10, 3) := by decide +kernel
theorem dX1_dropAdvertisement_7 : decode cX1_dropAdvertisement 7 = .ok (.aload_n 0, 1) := by decide +kernel
theorem dX1_dropAdvertisement_8 : decode cX1_dropAdvertisement 8 = .ok (.getfield 19, 3) := by decide +kernel
theorem dX1_dropAdvertisement_11 : decode cX1_dropAdvertisement 11 = .ok (.iload_n 1, 1) := by decide +kernel
theorem dX1_dropAdvertisement_12 : decode cX1_dropAdvertisement 12 = .ok (.iconst 0, 1) := by decide +kernel
theorem dX1_dropAdvertisement_13 : decode cX1_dropAdvertisement 13 = .ok (.bastore, 1) := by decide +kernel
theorem dX1_dropAdvertisement_14 : decode cX1_dropAdvertisement 14 = .ok (.return_, 1) := by decide +kernel
theorem dX2_remember_0 : decode cX2_remember 0 = .ok (.aload_n 0, 1) := by decide +kernel
theorem dX2_remember_1 : decode cX2_remember 1 = .ok (.aload_n 0, 1) := by decide +kernel
theorem dX2_remember_2 : decode cX2_remember 2 = .ok (.getfield 18, 3) := by decide +kernel
theorem dX2_remember_5 : decode cX2_remember 5 = .ok (.invokevirtual 22, 3) := by decide +kernel
theorem dX2_remember_8 : decode cX2_remember 8 = .ok (.astore_n 2, 1) := by decide +kernel
theorem dX2_remember_9 : decode cX2_remember 9 = .ok (.aload_n 2, 1) := by decide +kernel
theorem dX2_remember_10 : decode cX2_remember 10 = .ok (.ifnull 8, 3) := by decide +kernel
theorem dX2_remember_13 : decode cX2_remember 13 = .ok (.aload_n 2, 1) := by decide +kernel
theorem dX2_remember_14 : decode cX2_remember 14 = .ok (.aload_n 1, 1) := by decide +kernel
theorem dX2_remember_15 : decode cX2_remember 15 = .ok (.invokevirtual 26, 3) := by decide +kernel
theorem dX2_remember_18 : decode cX2_remember 18 = .ok (.aload_n 0, 1) := by decide +kernel
theorem dX2_remember_19 : decode cX2_remember 19 = .ok (.aload_n 0, 1) := by decide +kernel
theorem dX2_remember_20 : decode cX2_remember 20 = .ok (.getfield 18, 3) := by decide +kernel
theorem dX2_remember_23 : decode cX2_remember 23 = .ok (.iconst 1, 1) := by decide +kernel
theorem dX2_remember_24 : decode cX2_remember 24 = .ok (.iadd, 1) := by decide +kernel
theorem dX2_remember_25 : decode cX2_remember 25 = .ok (.bipush 8, 2) := by decide +kernel
theorem dX2_remember_27 : decode cX2_remember 27 = .ok (.irem, 1) := by decide +kernel
theorem dX2_remember_28 : decode cX2_remember 28 = .ok (.putfield 18, 3) := by decide +kernel
theorem dX2_remember_31 : decode cX2_remember 31 = .ok (.aload_n 0, 1) := by decide +kernel
theorem dX2_remember_32 : decode cX2_remember 32 = .ok (.aload_n 0, 1) := by decide +kernel
theorem dX2_remember_33 : decode cX2_remember 33 = .ok (.getfield 30, 3) := by decide +kernel
theorem dX2_remember_36 : decode cX2_remember 36 = .ok (.iconst 1, 1) := by decide +kernel
theorem dX2_remember_37 : decode cX2_remember 37 = .ok (.iadd, 1) := by decide +kernel
theorem dX2_remember_38 : decode cX2_remember 38 = .ok (.bipush 8, 2) := by decide +kernel
theorem dX2_remember_40 : decode cX2_remember 40 = .ok (.invokestatic 33, 3) := by decide +kernel
theorem dX2_remember_43 : decode cX2_remember 43 = .ok (.putfield 30, 3) := by decide +kernel
theorem dX2_remember_46 : decode cX2_remember 46 = .ok (.return_, 1) := by decide +kernel
theorem dX2_isEmpty_0 : decode cX2_isEmpty 0 = .ok (.aload_n 0, 1) := by decide +kernel
theorem dX2_isEmpty_1 : decode cX2_isEmpty 1 = .ok (.getfield 30, 3) := by decide +kernel
theorem dX2_isEmpty_4 : decode cX2_isEmpty 4 = .ok (.ifCond .ne 7, 3) := by decide +kernel
theorem dX2_isEmpty_7 : decode cX2_isEmpty 7 = .ok (.iconst 1, 1) := by decide +kernel
theorem dX2_isEmpty_8 : decode cX2_isEmpty 8 = .ok (.goto 4, 3) := by decide +kernel
theorem dX2_isEmpty_11 : decode cX2_isEmpty 11 = .ok (.iconst 0, 1) := by decide +kernel
theorem dX2_isEmpty_12 : decode cX2_isEmpty 12 = .ok (.ireturn, 1) := by decide +kernel
theorem dX2_takeBack_0 : decode cX2_takeBack 0 = .ok (.aload_n 0, 1) := by decide +kernel
theorem dX2_takeBack_1 : decode cX2_takeBack 1 = .ok (.aload_n 0, 1) := by decide +kernel
theorem dX2_takeBack_2 : decode cX2_takeBack 2 = .ok (.getfield 18, 3) := by decide +kernel
theorem dX2_takeBack_5 : decode cX2_takeBack 5 = .ok (.bipush 8, 2) := by decide +kernel
theorem dX2_takeBack_7 : decode cX2_takeBack 7 = .ok (.iadd, 1) := by decide +kernel
theorem dX2_takeBack_8 : decode cX2_takeBack 8 = .ok (.iconst 1, 1) := by decide +kernel
theorem dX2_takeBack_9 : decode cX2_takeBack 9 = .ok (.isub, 1) := by decide +kernel
theorem dX2_takeBack_10 : decode cX2_takeBack 10 = .ok (.bipush 8, 2) := by decide +kernel
theorem dX2_takeBack_12 : decode cX2_takeBack 12 = .ok (.irem, 1) := by decide +kernel
theorem dX2_takeBack_13 : decode cX2_takeBack 13 = .ok (.putfield 18, 3) := by decide +kernel
theorem dX2_takeBack_16 : decode cX2_takeBack 16 = .ok (.aload_n 0, 1) := by decide +kernel
theorem dX2_takeBack_17 : decode cX2_takeBack 17 = .ok (.dup, 1) := by decide +kernel
theorem dX2_takeBack_18 : decode cX2_takeBack 18 = .ok (.getfield 30, 3) := by decide +kernel
theorem dX2_takeBack_21 : decode cX2_takeBack 21 = .ok (.iconst 1, 1) := by decide +kernel
theorem dX2_takeBack_22 : decode cX2_takeBack 22 = .ok (.isub, 1) := by decide +kernel
theorem dX2_takeBack_23 : decode cX2_takeBack 23 = .ok (.putfield 30, 3) := by decide +kernel
theorem dX2_takeBack_26 : decode cX2_takeBack 26 = .ok (.aload_n 0, 1) := by decide +kernel
theorem dX2_takeBack_27 : decode cX2_takeBack 27 = .ok (.aload_n 0, 1) := by decide +kernel
theorem dX2_takeBack_28 : decode cX2_takeBack 28 = .ok (.getfield 18, 3) := by decide +kernel
theorem dX2_takeBack_31 : decode cX2_takeBack 31 = .ok (.invokevirtual 22, 3) := by decide +kernel
theorem dX2_takeBack_34 : decode cX2_takeBack 34 = .ok (.astore_n 2, 1) := by decide +kernel
theorem dX2_takeBack_35 : decode cX2_takeBack 35 = .ok (.aload_n 2, 1) := by decide +kernel
theorem dX2_takeBack_36 : decode cX2_takeBack 36 = .ok (.ifnull 8, 3) := by decide +kernel
theorem dX2_takeBack_39 : decode cX2_takeBack 39 = .ok (.aload_n 1, 1) := by decide +kernel
theorem dX2_takeBack_40 : decode cX2_takeBack 40 = .ok (.aload_n 2, 1) := by decide +kernel
theorem dX2_takeBack_41 : decode cX2_takeBack 41 = .ok (.invokevirtual 26, 3) := by decide +kernel
theorem dX2_takeBack_44 : decode cX2_takeBack 44 = .ok (.aload_n 0, 1) := by decide +kernel
theorem dX2_takeBack_45 : decode cX2_takeBack 45 = .ok (.getfield 30, 3) := by decide +kernel
theorem dX2_takeBack_48 : decode cX2_takeBack 48 = .ok (.ireturn, 1) := by decide +kernel
theorem dX2_editionAt_0 : decode cX2_editionAt 0 = .ok (.iload_n 1, 1) := by decide +kernel
theorem dX2_editionAt_1 : decode cX2_editionAt 1 = .ok (.ifCond .lt 18, 3) := by decide +kernel
theorem dX2_editionAt_4 : decode cX2_editionAt 4 = .ok (.iload_n 1, 1) := by decide +kernel
theorem dX2_editionAt_5 : decode cX2_editionAt 5 = .ok (.bipush 8, 2) := by decide +kernel
theorem dX2_editionAt_7 : decode cX2_editionAt 7 = .ok (.if_icmp .ge 12, 3) := by decide +kernel
theorem dX2_editionAt_10 : decode cX2_editionAt 10 = .ok (.aload_n 0, 1) := by decide +kernel
theorem dX2_editionAt_11 : decode cX2_editionAt 11 = .ok (.getfield 11, 3) := by decide +kernel
theorem dX2_editionAt_14 : decode cX2_editionAt 14 = .ok (.iload_n 1, 1) := by decide +kernel
theorem dX2_editionAt_15 : decode cX2_editionAt 15 = .ok (.aaload, 1) := by decide +kernel
theorem dX2_editionAt_16 : decode cX2_editionAt 16 = .ok (.goto 4, 3) := by decide +kernel
theorem dX2_editionAt_19 : decode cX2_editionAt 19 = .ok (.aconst_null, 1) := by decide +kernel
theorem dX2_editionAt_20 : decode cX2_editionAt 20 = .ok (.areturn, 1) := by decide +kernel
theorem dX2_forget_0 : decode cX2_forget 0 = .ok (.aload_n 0, 1) := by decide +kernel
theorem dX2_forget_1 : decode cX2_forget 1 = .ok (.iconst 0, 1) := by decide +kernel
theorem dX2_forget_2 : decode cX2_forget 2 = .ok (.putfield 30, 3) := by decide +kernel
theorem dX2_forget_5 : decode cX2_forget 5 = .ok (.return_, 1) := by decide +kernel
theorem dX3_layOut_0 : decode cX3_layOut 0 = .ok (.aload_n 0, 1) := by decide +kernel
theorem dX3_layOut_1 : decode cX3_layOut 1 = .ok (.invokevirtual 43, 3) := by decide +kernel
theorem dX3_layOut_4 : decode cX3_layOut 4 = .ok (.aload_n 0, 1) := by decide +kernel
theorem dX3_layOut_5 : decode cX3_layOut 5 = .ok (.invokevirtual 46, 3) := by decide +kernel
theorem dX3_layOut_8 : decode cX3_layOut 8 = .ok (.aload_n 0, 1) := by decide +kernel
theorem dX3_layOut_9 : decode cX3_layOut 9 = .ok (.invokevirtual 49, 3) := by decide +kernel
theorem dX3_layOut_12 : decode cX3_layOut 12 = .ok (.aload_n 0, 1) := by decide +kernel
theorem dX3_layOut_13 : decode cX3_layOut 13 = .ok (.getfield 12, 3) := by decide +kernel
theorem dX3_layOut_16 : decode cX3_layOut 16 = .ok (.invokevirtual 52, 3) := by decide +kernel
theorem dX3_layOut_19 : decode cX3_layOut 19 = .ok (.istore_n 1, 1) := by decide +kernel
theorem dX3_layOut_20 : decode cX3_layOut 20 = .ok (.iconst 0, 1) := by decide +kernel
theorem dX3_layOut_21 : decode cX3_layOut 21 = .ok (.istore_n 2, 1) := by decide +kernel
theorem dX3_layOut_22 : decode cX3_layOut 22 = .ok (.iload_n 2, 1) := by decide +kernel
theorem dX3_layOut_23 : decode cX3_layOut 23 = .ok (.iload_n 1, 1) := by decide +kernel
theorem dX3_layOut_24 : decode cX3_layOut 24 = .ok (.if_icmp .ge 18, 3) := by decide +kernel
theorem dX3_layOut_27 : decode cX3_layOut 27 = .ok (.aload_n 0, 1) := by decide +kernel
theorem dX3_layOut_28 : decode cX3_layOut 28 = .ok (.aload_n 0, 1) := by decide +kernel
theorem dX3_layOut_29 : decode cX3_layOut 29 = .ok (.iload_n 2, 1) := by decide +kernel
theorem dX3_layOut_30 : decode cX3_layOut 30 = .ok (.invokevirtual 56, 3) := by decide +kernel
theorem dX3_layOut_33 : decode cX3_layOut 33 = .ok (.invokevirtual 60, 3) := by decide +kernel
theorem dX3_layOut_36 : decode cX3_layOut 36 = .ok (.iinc 2 1, 3) := by decide +kernel
theorem dX3_layOut_39 : decode cX3_layOut 39 = .ok (.goto (-17), 3) := by decide +kernel
theorem dX3_layOut_42 : decode cX3_layOut 42 = .ok (.return_, 1) := by decide +kernel
theorem dX3_clear_0 : decode cX3_clear 0 = .ok (.iconst 0, 1) := by decide +kernel
theorem dX3_clear_1 : decode cX3_clear 1 = .ok (.istore_n 1, 1) := by decide +kernel
theorem dX3_clear_2 : decode cX3_clear 2 = .ok (.iload_n 1, 1) := by decide +kernel
theorem dX3_clear_3 : decode cX3_clear 3 = .ok (.sipush 480, 3) := by decide +kernel
theorem dX3_clear_6 : decode cX3_clear 6 = .ok (.if_icmp .ge 23, 3) := by decide +kernel
theorem dX3_clear_9 : decode cX3_clear 9 = .ok (.aload_n 0, 1) := by decide +kernel
theorem dX3_clear_10 : decode cX3_clear 10 = .ok (.getfield 18, 3) := by decide +kernel
theorem dX3_clear_13 : decode cX3_clear 13 = .ok (.iload_n 1, 1) := by decide +kernel
theorem dX3_clear_14 : decode cX3_clear 14 = .ok (.iconst 0, 1) := by decide +kernel
theorem dX3_clear_15 : decode cX3_clear 15 = .ok (.iastore, 1) := by decide +kernel
theorem dX3_clear_16 : decode cX3_clear 16 = .ok (.aload_n 0, 1) := by decide +kernel
theorem dX3_clear_17 : decode cX3_clear 17 = .ok (.getfield 22, 3) := by decide +kernel
theorem dX3_clear_20 : decode cX3_clear 20 = .ok (.iload_n 1, 1) := by decide +kernel
theorem dX3_clear_21 : decode cX3_clear 21 = .ok (.iconst (-1), 1) := by decide +kernel
theorem dX3_clear_22 : decode cX3_clear 22 = .ok (.iastore, 1) := by decide +kernel
theorem dX3_clear_23 : decode cX3_clear 23 = .ok (.iinc 1 1, 3) := by decide +kernel
theorem dX3_clear_26 : decode cX3_clear 26 = .ok (.goto (-24), 3) := by decide +kernel
theorem dX3_clear_29 : decode cX3_clear 29 = .ok (.iconst 0, 1) := by decide +kernel
theorem dX3_clear_30 : decode cX3_clear 30 = .ok (.istore_n 1, 1) := by decide +kernel
theorem dX3_clear_31 : decode cX3_clear 31 = .ok (.iload_n 1, 1) := by decide +kernel
theorem dX3_clear_32 : decode cX3_clear 32 = .ok (.bipush 12, 2) := by decide +kernel
theorem dX3_clear_34 : decode cX3_clear 34 = .ok (.if_icmp .ge 30, 3) := by decide +kernel
theorem dX3_clear_37 : decode cX3_clear 37 = .ok (.aload_n 0, 1) := by decide +kernel
theorem dX3_clear_38 : decode cX3_clear 38 = .ok (.getfield 31, 3) := by decide +kernel
theorem dX3_clear_41 : decode cX3_clear 41 = .ok (.iload_n 1, 1) := by decide +kernel
theorem dX3_clear_42 : decode cX3_clear 42 = .ok (.iconst 0, 1) := by decide +kernel
theorem dX3_clear_43 : decode cX3_clear 43 = .ok (.iastore, 1) := by decide +kernel
theorem dX3_clear_44 : decode cX3_clear 44 = .ok (.aload_n 0, 1) := by decide +kernel
theorem dX3_clear_45 : decode cX3_clear 45 = .ok (.getfield 37, 3) := by decide +kernel
theorem dX3_clear_48 : decode cX3_clear 48 = .ok (.iload_n 1, 1) := by decide +kernel
theorem dX3_clear_49 : decode cX3_clear 49 = .ok (.iconst 0, 1) := by decide +kernel
theorem dX3_clear_50 : decode cX3_clear 50 = .ok (.iastore, 1) := by decide +kernel
theorem dX3_clear_51 : decode cX3_clear 51 = .ok (.aload_n 0, 1) := by decide +kernel
theorem dX3_clear_52 : decode cX3_clear 52 = .ok (.getfield 40, 3) := by decide +kernel
theorem dX3_clear_55 : decode cX3_clear 55 = .ok (.iload_n 1, 1) := by decide +kernel
theorem dX3_clear_56 : decode cX3_clear 56 = .ok (.iconst 0, 1) := by decide +kernel
theorem dX3_clear_57 : decode cX3_clear 57 = .ok (.iastore, 1) := by decide +kernel
theorem dX3_clear_58 : decode cX3_clear 58 = .ok (.iinc 1 1, 3) := by decide +kernel
theorem dX3_clear_61 : decode cX3_clear 61 = .ok (.goto (-30), 3) := by decide +kernel
theorem dX3_clear_64 : decode cX3_clear 64 = .ok (.return_, 1) := by decide +kernel
theorem dX3_paintAdvertisements_0 : decode cX3_paintAdvertisements 0 = .ok (.iconst 0, 1) := by decide +kernel
theorem dX3_paintAdvertisements_1 : decode cX3_paintAdvertisements 1 = .ok (.istore_n 1, 1) := by decide +kernel
theorem dX3_paintAdvertisements_2 : decode cX3_paintAdvertisements 2 = .ok (.iload_n 1, 1) := by decide +kernel
theorem dX3_paintAdvertisements_3 : decode cX3_paintAdvertisements 3 = .ok (.bipush 8, 2) := by decide +kernel
theorem dX3_paintAdvertisements_5 : decode cX3_paintAdvertisements 5 = .ok (.if_icmp .ge 79, 3) := by decide +kernel
theorem dX3_paintAdvertisements_8 : decode cX3_paintAdvertisements 8 = .ok (.aload_n 0, 1) := by decide +kernel
theorem dX3_paintAdvertisements_9 : decode cX3_paintAdvertisements 9 = .ok (.getfield 12, 3) := by decide +kernel
theorem dX3_paintAdvertisements_12 : decode cX3_paintAdvertisements 12 = .ok (.iload_n 1, 1) := by decide +kernel
theorem dX3_paintAdvertisements_13 : decode cX3_paintAdvertisements 13 = .ok (.invokevirtual 64, 3) := by decide +kernel
theorem dX3_paintAdvertisements_16 : decode cX3_paintAdvertisements 16 = .ok (.ifCond .eq 62, 3) := by decide +kernel
theorem dX3_paintAdvertisements_19 : decode cX3_paintAdvertisements 19 = .ok (.aload_n 0, 1) := by decide +kernel
theorem dX3_paintAdvertisements_20 : decode cX3_paintAdvertisements 20 = .ok (.getfield 12, 3) := by decide +kernel
theorem dX3_paintAdvertisements_23 : decode cX3_paintAdvertisements 23 = .ok (.iload_n 1, 1) := by decide +kernel
theorem dX3_paintAdvertisements_24 : decode cX3_paintAdvertisements 24 = .ok (.iconst 0, 1) := by decide +kernel
theorem dX3_paintAdvertisements_25 : decode cX3_paintAdvertisements 25 = .ok (.invokevirtual 68, 3) := by decide +kernel
theorem dX3_paintAdvertisements_28 : decode cX3_paintAdvertisements 28 = .ok (.aload_n 0, 1) := by decide +kernel
theorem dX3_paintAdvertisements_29 : decode cX3_paintAdvertisements 29 = .ok (.getfield 12, 3) := by decide +kernel
theorem dX3_paintAdvertisements_32 : decode cX3_paintAdvertisements 32 = .ok (.iload_n 1, 1) := by decide +kernel
theorem dX3_paintAdvertisements_33 : decode cX3_paintAdvertisements 33 = .ok (.iconst 1, 1) := by decide +kernel
theorem dX3_paintAdvertisements_34 : decode cX3_paintAdvertisements 34 = .ok (.invokevirtual 68, 3) := by decide +kernel
theorem dX3_paintAdvertisements_37 : decode cX3_paintAdvertisements 37 = .ok (.aload_n 0, 1) := by decide +kernel
theorem dX3_paintAdvertisements_38 : decode cX3_paintAdvertisements 38 = .ok (.getfield 12, 3) := by decide +kernel
theorem dX3_paintAdvertisements_41 : decode cX3_paintAdvertisements 41 = .ok (.iload_n 1, 1) := by decide +kernel
theorem dX3_paintAdvertisements_42 : decode cX3_paintAdvertisements 42 = .ok (.iconst 2, 1) := by decide +kernel
theorem dX3_paintAdvertisements_43 : decode cX3_paintAdvertisements 43 = .ok (.invokevirtual 68, 3) := by decide +kernel
theorem dX3_paintAdvertisements_46 : decode cX3_paintAdvertisements 46 = .ok (.invokestatic 72, 3) := by decide +kernel
theorem dX3_paintAdvertisements_49 : decode cX3_paintAdvertisements 49 = .ok (.istore_n 2, 1) := by decide +kernel
theorem dX3_paintAdvertisements_50 : decode cX3_paintAdvertisements 50 = .ok (.aload_n 0, 1) := by decide +kernel
theorem dX3_paintAdvertisements_51 : decode cX3_paintAdvertisements 51 = .ok (.iload_n 2, 1) := by decide +kernel
theorem dX3_paintAdvertisements_52 : decode cX3_paintAdvertisements 52 = .ok (.aload_n 0, 1) := by decide +kernel
theorem dX3_paintAdvertisements_53 : decode cX3_paintAdvertisements 53 = .ok (.getfield 12, 3) := by decide +kernel
theorem dX3_paintAdvertisements_56 : decode cX3_paintAdvertisements 56 = .ok (.iload_n 1, 1) := by decide +kernel
theorem dX3_paintAdvertisements_57 : decode cX3_paintAdvertisements 57 = .ok (.iconst 3, 1) := by decide +kernel
theorem dX3_paintAdvertisements_58 : decode cX3_paintAdvertisements 58 = .ok (.invokevirtual 68, 3) := by decide +kernel
theorem dX3_paintAdvertisements_61 : decode cX3_paintAdvertisements 61 = .ok (.aload_n 0, 1) := by decide +kernel
theorem dX3_paintAdvertisements_62 : decode cX3_paintAdvertisements 62 = .ok (.getfield 12, 3) := by decide +kernel
theorem dX3_paintAdvertisements_65 : decode cX3_paintAdvertisements 65 = .ok (.iload_n 1, 1) := by decide +kernel
theorem dX3_paintAdvertisements_66 : decode cX3_paintAdvertisements 66 = .ok (.iconst 4, 1) := by decide +kernel
theorem dX3_paintAdvertisements_67 : decode cX3_paintAdvertisements 67 = .ok (.invokevirtual 68, 3) := by decide +kernel
theorem dX3_paintAdvertisements_70 : decode cX3_paintAdvertisements 70 = .ok (.iconst 1, 1) := by decide +kernel
theorem dX3_paintAdvertisements_71 : decode cX3_paintAdvertisements 71 = .ok (.bipush 100, 2) := by decide +kernel
theorem dX3_paintAdvertisements_73 : decode cX3_paintAdvertisements 73 = .ok (.iload_n 1, 1) := by decide +kernel
theorem dX3_paintAdvertisements_74 : decode cX3_paintAdvertisements 74 = .ok (.iadd, 1) := by decide +kernel
theorem dX3_paintAdvertisements_75 : decode cX3_paintAdvertisements 75 = .ok (.invokevirtual 76, 3) := by decide +kernel
theorem dX3_paintAdvertisements_78 : decode cX3_paintAdvertisements 78 = .ok (.iinc 1 1, 3) := by decide +kernel
theorem dX3_paintAdvertisements_81 : decode cX3_paintAdvertisements 81 = .ok (.goto (-79), 3) := by decide +kernel
theorem dX3_paintAdvertisements_84 : decode cX3_paintAdvertisements 84 = .ok (.return_, 1) := by decide +kernel
theorem dX3_rankStories_0 : decode cX3_rankStories 0 = .ok (.iconst 0, 1) := by decide +kernel
theorem dX3_rankStories_1 : decode cX3_rankStories 1 = .ok (.istore_n 1, 1) := by decide +kernel
theorem dX3_rankStories_2 : decode cX3_rankStories 2 = .ok (.iload_n 1, 1) := by decide +kernel
theorem dX3_rankStories_3 : decode cX3_rankStories 3 = .ok (.bipush 12, 2) := by decide +kernel
theorem dX3_rankStories_5 : decode cX3_rankStories 5 = .ok (.if_icmp .ge 47, 3) := by decide +kernel
theorem dX3_rankStories_8 : decode cX3_rankStories 8 = .ok (.aload_n 0, 1) := by decide +kernel
theorem dX3_rankStories_9 : decode cX3_rankStories 9 = .ok (.iload_n 1, 1) := by decide +kernel
theorem dX3_rankStories_10 : decode cX3_rankStories 10 = .ok (.invokevirtual 80, 3) := by decide +kernel
theorem dX3_rankStories_13 : decode cX3_rankStories 13 = .ok (.istore_n 2, 1) := by decide +kernel
theorem dX3_rankStories_14 : decode cX3_rankStories 14 = .ok (.aload_n 0, 1) := by decide +kernel
theorem dX3_rankStories_15 : decode cX3_rankStories 15 = .ok (.getfield 12, 3) := by decide +kernel
theorem dX3_rankStories_18 : decode cX3_rankStories 18 = .ok (.iload_n 1, 1) := by decide +kernel
theorem dX3_rankStories_19 : decode cX3_rankStories 19 = .ok (.invokevirtual 83, 3) := by decide +kernel
theorem dX3_rankStories_22 : decode cX3_rankStories 22 = .ok (.ifCond .eq 24, 3) := by decide +kernel
theorem dX3_rankStories_25 : decode cX3_rankStories 25 = .ok (.iload_n 2, 1) := by decide +kernel
theorem dX3_rankStories_26 : decode cX3_rankStories 26 = .ok (.invokestatic 86, 3) := by decide +kernel
theorem dX3_rankStories_29 : decode cX3_rankStories 29 = .ok (.ifCond .eq 17, 3) := by decide +kernel
theorem dX3_rankStories_32 : decode cX3_rankStories 32 = .ok (.aload_n 0, 1) := by decide +kernel
theorem dX3_rankStories_33 : decode cX3_rankStories 33 = .ok (.getfield 28, 3) := by decide +kernel
theorem dX3_rankStories_36 : decode cX3_rankStories 36 = .ok (.iload_n 1, 1) := by decide +kernel
theorem dX3_rankStories_37 : decode cX3_rankStories 37 = .ok (.iload_n 2, 1) := by decide +kernel
theorem dX3_rankStories_38 : decode cX3_rankStories 38 = .ok (.iastore, 1) := by decide +kernel
theorem dX3_rankStories_39 : decode cX3_rankStories 39 = .ok (.aload_n 0, 1) := by decide +kernel
theorem dX3_rankStories_40 : decode cX3_rankStories 40 = .ok (.getfield 25, 3) := by decide +kernel
theorem dX3_rankStories_43 : decode cX3_rankStories 43 = .ok (.iload_n 2, 1) := by decide +kernel
theorem dX3_rankStories_44 : decode cX3_rankStories 44 = .ok (.iload_n 1, 1) := by decide +kernel
theorem dX3_rankStories_45 : decode cX3_rankStories 45 = .ok (.iastore, 1) := by decide +kernel
theorem dX3_rankStories_46 : decode cX3_rankStories 46 = .ok (.iinc 1 1, 3) := by decide +kernel
theorem dX3_rankStories_49 : decode cX3_rankStories 49 = .ok (.goto (-47), 3) := by decide +kernel
theorem dX3_rankStories_52 : decode cX3_rankStories 52 = .ok (.return_, 1) := by decide +kernel
theorem dX3_countBefore_0 : decode cX3_countBefore 0 = .ok (.iconst 0, 1) := by decide +kernel
theorem dX3_countBefore_1 : decode cX3_countBefore 1 = .ok (.istore_n 2, 1) := by decide +kernel
theorem dX3_countBefore_2 : decode cX3_countBefore 2 = .ok (.iconst 0, 1) := by decide +kernel
theorem dX3_countBefore_3 : decode cX3_countBefore 3 = .ok (.istore_n 3, 1) := by decide +kernel
theorem dX3_countBefore_4 : decode cX3_countBefore 4 = .ok (.iload_n 3, 1) := by decide +kernel
theorem dX3_countBefore_5 : decode cX3_countBefore 5 = .ok (.bipush 12, 2) := by decide +kernel
theorem dX3_countBefore_7 : decode cX3_countBefore 7 = .ok (.if_icmp .ge 32, 3) := by decide +kernel
theorem dX3_countBefore_10 : decode cX3_countBefore 10 = .ok (.aload_n 0, 1) := by decide +kernel
theorem dX3_countBefore_11 : decode cX3_countBefore 11 = .ok (.getfield 12, 3) := by decide +kernel
theorem dX3_countBefore_14 : decode cX3_countBefore 14 = .ok (.iload_n 3, 1) := by decide +kernel
theorem dX3_countBefore_15 : decode cX3_countBefore 15 = .ok (.invokevirtual 83, 3) := by decide +kernel
theorem dX3_countBefore_18 : decode cX3_countBefore 18 = .ok (.ifCond .eq 15, 3) := by decide +kernel
theorem dX3_countBefore_21 : decode cX3_countBefore 21 = .ok (.aload_n 0, 1) := by decide +kernel
theorem dX3_countBefore_22 : decode cX3_countBefore 22 = .ok (.iload_n 3, 1) := by decide +kernel
theorem dX3_countBefore_23 : decode cX3_countBefore 23 = .ok (.iload_n 1, 1) := by decide +kernel
theorem dX3_countBefore_24 : decode cX3_countBefore 24 = .ok (.invokevirtual 89, 3) := by decide +kernel
theorem dX3_countBefore_27 : decode cX3_countBefore 27 = .ok (.ifCond .eq 6, 3) := by decide +kernel
theorem dX3_countBefore_30 : decode cX3_countBefore 30 = .ok (.iinc 2 1, 3) := by decide +kernel
theorem dX3_countBefore_33 : decode cX3_countBefore 33 = .ok (.iinc 3 1, 3) := by decide +kernel
theorem dX3_countBefore_36 : decode cX3_countBefore 36 = .ok (.goto (-32), 3) := by decide +kernel
theorem dX3_countBefore_39 : decode cX3_countBefore 39 = .ok (.iload_n 2, 1) := by decide +kernel
theorem dX3_countBefore_40 : decode cX3_countBefore 40 = .ok (.ireturn, 1) := by decide +kernel
theorem dX3_comesBefore_0 : decode cX3_comesBefore 0 = .ok (.aload_n 0, 1) := by decide +kernel
theorem dX3_comesBefore_1 : decode cX3_comesBefore 1 = .ok (.getfield 12, 3) := by decide +kernel
theorem dX3_comesBefore_4 : decode cX3_comesBefore 4 = .ok (.iload_n 1, 1) := by decide +kernel
theorem dX3_comesBefore_5 : decode cX3_comesBefore 5 = .ok (.invokevirtual 93, 3) := by decide +kernel
theorem dX3_comesBefore_8 : decode cX3_comesBefore 8 = .ok (.aload_n 0, 1) := by decide +kernel
theorem dX3_comesBefore_9 : decode cX3_comesBefore 9 = .ok (.getfield 12, 3) := by decide +kernel
theorem dX3_comesBefore_12 : decode cX3_comesBefore 12 = .ok (.iload_n 2, 1) := by decide +kernel
theorem dX3_comesBefore_13 : decode cX3_comesBefore 13 = .ok (.invokevirtual 93, 3) := by decide +kernel
theorem dX3_comesBefore_16 : decode cX3_comesBefore 16 = .ok (.if_icmp .eq 12, 3) := by decide +kernel
theorem dX3_comesBefore_19 : decode cX3_comesBefore 19 = .ok (.aload_n 0, 1) := by decide +kernel
theorem dX3_comesBefore_20 : decode cX3_comesBefore 20 = .ok (.getfield 12, 3) := by decide +kernel
theorem dX3_comesBefore_23 : decode cX3_comesBefore 23 = .ok (.iload_n 1, 1) := by decide +kernel
theorem dX3_comesBefore_24 : decode cX3_comesBefore 24 = .ok (.invokevirtual 93, 3) := by decide +kernel
theorem dX3_comesBefore_27 : decode cX3_comesBefore 27 = .ok (.ireturn, 1) := by decide +kernel
theorem dX3_comesBefore_28 : decode cX3_comesBefore 28 = .ok (.aload_n 0, 1) := by decide +kernel
theorem dX3_comesBefore_29 : decode cX3_comesBefore 29 = .ok (.getfield 12, 3) := by decide +kernel
theorem dX3_comesBefore_32 : decode cX3_comesBefore 32 = .ok (.iload_n 1, 1) := by decide +kernel
theorem dX3_comesBefore_33 : decode cX3_comesBefore 33 = .ok (.iconst 4, 1) := by decide +kernel
theorem dX3_comesBefore_34 : decode cX3_comesBefore 34 = .ok (.invokevirtual 96, 3) := by decide +kernel
theorem dX3_comesBefore_37 : decode cX3_comesBefore 37 = .ok (.istore_n 3, 1) := by decide +kernel
theorem dX3_comesBefore_38 : decode cX3_comesBefore 38 = .ok (.aload_n 0, 1) := by decide +kernel
theorem dX3_comesBefore_39 : decode cX3_comesBefore 39 = .ok (.getfield 12, 3) := by decide +kernel
theorem dX3_comesBefore_42 : decode cX3_comesBefore 42 = .ok (.iload_n 2, 1) := by decide +kernel
theorem dX3_comesBefore_43 : decode cX3_comesBefore 43 = .ok (.iconst 4, 1) := by decide +kernel
theorem dX3_comesBefore_44 : decode cX3_comesBefore 44 = .ok (.invokevirtual 96, 3) := by decide +kernel
theorem dX3_comesBefore_47 : decode cX3_comesBefore 47 = .ok (.istore 4, 2) := by decide +kernel
theorem dX3_comesBefore_49 : decode cX3_comesBefore 49 = .ok (.iload_n 3, 1) := by decide +kernel
theorem dX3_comesBefore_50 : decode cX3_comesBefore 50 = .ok (.iload 4, 2) := by decide +kernel
theorem dX3_comesBefore_52 : decode cX3_comesBefore 52 = .ok (.if_icmp .eq 17, 3) := by decide +kernel
theorem dX3_comesBefore_55 : decode cX3_comesBefore 55 = .ok (.iload_n 3, 1) := by decide +kernel
theorem dX3_comesBefore_56 : decode cX3_comesBefore 56 = .ok (.iload 4, 2) := by decide +kernel
theorem dX3_comesBefore_58 : decode cX3_comesBefore 58 = .ok (.if_icmp .le 7, 3) := by decide +kernel
theorem dX3_comesBefore_61 : decode cX3_comesBefore 61 = .ok (.iconst 1, 1) := by decide +kernel
theorem dX3_comesBefore_62 : decode cX3_comesBefore 62 = .ok (.goto 17, 3) := by decide +kernel
theorem dX3_comesBefore_65 : decode cX3_comesBefore 65 = .ok (.iconst 0, 1) := by decide +kernel
theorem dX3_comesBefore_66 : decode cX3_comesBefore 66 = .ok (.goto 13, 3) := by decide +kernel
theorem dX3_comesBefore_69 : decode cX3_comesBefore 69 = .ok (.iload_n 1, 1) := by decide +kernel
theorem dX3_comesBefore_70 : decode cX3_comesBefore 70 = .ok (.iload_n 2, 1) := by decide +kernel
theorem dX3_comesBefore_71 : decode cX3_comesBefore 71 = .ok (.if_icmp .ge 7, 3) := by decide +kernel
theorem dX3_comesBefore_74 : decode cX3_comesBefore 74 = .ok (.iconst 1, 1) := by decide +kernel
theorem dX3_comesBefore_75 : decode cX3_comesBefore 75 = .ok (.goto 4, 3) := by decide +kernel
theorem dX3_comesBefore_78 : decode cX3_comesBefore 78 = .ok (.iconst 0, 1) := by decide +kernel
theorem dX3_comesBefore_79 : decode cX3_comesBefore 79 = .ok (.ireturn, 1) := by decide +kernel
theorem dX3_placeStory_0 : decode cX3_placeStory 0 = .ok (.aload_n 0, 1) := by decide +kernel
theorem dX3_placeStory_1 : decode cX3_placeStory 1 = .ok (.iload_n 1, 1) := by decide +kernel
theorem dX3_placeStory_2 : decode cX3_placeStory 2 = .ok (.invokevirtual 99, 3) := by decide +kernel
theorem dX3_placeStory_5 : decode cX3_placeStory 5 = .ok (.istore_n 2, 1) := by decide +kernel
theorem dX3_placeStory_6 : decode cX3_placeStory 6 = .ok (.iconst 0, 1) := by decide +kernel
theorem dX3_placeStory_7 : decode cX3_placeStory 7 = .ok (.istore_n 3, 1) := by decide +kernel
theorem dX3_placeStory_8 : decode cX3_placeStory 8 = .ok (.iload_n 3, 1) := by decide +kernel
theorem dX3_placeStory_9 : decode cX3_placeStory 9 = .ok (.iconst 4, 1) := by decide +kernel
theorem dX3_placeStory_10 : decode cX3_placeStory 10 = .ok (.if_icmp .ge 51, 3) := by decide +kernel
theorem dX3_placeStory_13 : decode cX3_placeStory 13 = .ok (.iload_n 2, 1) := by decide +kernel
theorem dX3_placeStory_14 : decode cX3_placeStory 14 = .ok (.iconst (-1), 1) := by decide +kernel
theorem dX3_placeStory_15 : decode cX3_placeStory 15 = .ok (.if_icmp .eq 46, 3) := by decide +kernel
theorem dX3_placeStory_18 : decode cX3_placeStory 18 = .ok (.aload_n 0, 1) := by decide +kernel
theorem dX3_placeStory_19 : decode cX3_placeStory 19 = .ok (.iload_n 2, 1) := by decide +kernel
theorem dX3_placeStory_20 : decode cX3_placeStory 20 = .ok (.invokevirtual 102, 3) := by decide +kernel
theorem dX3_placeStory_23 : decode cX3_placeStory 23 = .ok (.istore 4, 2) := by decide +kernel
theorem dX3_placeStory_25 : decode cX3_placeStory 25 = .ok (.iload_n 3, 1) := by decide +kernel
theorem dX3_placeStory_26 : decode cX3_placeStory 26 = .ok (.ifCond .ne 14, 3) := by decide +kernel
theorem dX3_placeStory_29 : decode cX3_placeStory 29 = .ok (.aload_n 0, 1) := by decide +kernel
theorem dX3_placeStory_30 : decode cX3_placeStory 30 = .ok (.iload_n 1, 1) := by decide +kernel
theorem dX3_placeStory_31 : decode cX3_placeStory 31 = .ok (.iload_n 2, 1) := by decide +kernel
theorem dX3_placeStory_32 : decode cX3_placeStory 32 = .ok (.iload 4, 2) := by decide +kernel
theorem dX3_placeStory_34 : decode cX3_placeStory 34 = .ok (.invokevirtual 105, 3) := by decide +kernel
theorem dX3_placeStory_37 : decode cX3_placeStory 37 = .ok (.goto 11, 3) := by decide +kernel
theorem dX3_placeStory_40 : decode cX3_placeStory 40 = .ok (.aload_n 0, 1) := by decide +kernel
theorem dX3_placeStory_41 : decode cX3_placeStory 41 = .ok (.iload_n 1, 1) := by decide +kernel
theorem dX3_placeStory_42 : decode cX3_placeStory 42 = .ok (.iload_n 2, 1) := by decide +kernel
theorem dX3_placeStory_43 : decode cX3_placeStory 43 = .ok (.iload 4, 2) := by decide +kernel
theorem dX3_placeStory_45 : decode cX3_placeStory 45 = .ok (.invokevirtual 108, 3) := by decide +kernel
theorem dX3_placeStory_48 : decode cX3_placeStory 48 = .ok (.istore_n 2, 1) := by decide +kernel
theorem dX3_placeStory_49 : decode cX3_placeStory 49 = .ok (.aload_n 0, 1) := by decide +kernel
theorem dX3_placeStory_50 : decode cX3_placeStory 50 = .ok (.iload_n 1, 1) := by decide +kernel
theorem dX3_placeStory_51 : decode cX3_placeStory 51 = .ok (.iload_n 3, 1) := by decide +kernel
theorem dX3_placeStory_52 : decode cX3_placeStory 52 = .ok (.invokevirtual 111, 3) := by decide +kernel
theorem dX3_placeStory_55 : decode cX3_placeStory 55 = .ok (.iinc 3 1, 3) := by decide +kernel
theorem dX3_placeStory_58 : decode cX3_placeStory 58 = .ok (.goto (-50), 3) := by decide +kernel
theorem dX3_placeStory_61 : decode cX3_placeStory 61 = .ok (.return_, 1) := by decide +kernel
theorem dX3_findStart_0 : decode cX3_findStart 0 = .ok (.aload_n 0, 1) := by decide +kernel
theorem dX3_findStart_1 : decode cX3_findStart 1 = .ok (.getfield 12, 3) := by decide +kernel
theorem dX3_findStart_4 : decode cX3_findStart 4 = .ok (.iload_n 1, 1) := by decide +kernel
theorem dX3_findStart_5 : decode cX3_findStart 5 = .ok (.iconst 0, 1) := by decide +kernel
theorem dX3_findStart_6 : decode cX3_findStart 6 = .ok (.invokevirtual 96, 3) := by decide +kernel
theorem dX3_findStart_9 : decode cX3_findStart 9 = .ok (.istore_n 2, 1) := by decide +kernel
theorem dX3_findStart_10 : decode cX3_findStart 10 = .ok (.aload_n 0, 1) := by decide +kernel
theorem dX3_findStart_11 : decode cX3_findStart 11 = .ok (.getfield 12, 3) := by decide +kernel
theorem dX3_findStart_14 : decode cX3_findStart 14 = .ok (.iload_n 1, 1) := by decide +kernel
theorem dX3_findStart_15 : decode cX3_findStart 15 = .ok (.invokevirtual 93, 3) := by decide +kernel
theorem dX3_findStart_18 : decode cX3_findStart 18 = .ok (.ifCond .eq 7, 3) := by decide +kernel
theorem dX3_findStart_21 : decode cX3_findStart 21 = .ok (.iload_n 2, 1) := by decide +kernel
theorem dX3_findStart_22 : decode cX3_findStart 22 = .ok (.goto 4, 3) := by decide +kernel
theorem dX3_findStart_25 : decode cX3_findStart 25 = .ok (.iconst 3, 1) := by decide +kernel
theorem dX3_findStart_26 : decode cX3_findStart 26 = .ok (.istore_n 3, 1) := by decide +kernel
theorem dX3_findStart_27 : decode cX3_findStart 27 = .ok (.aload_n 0, 1) := by decide +kernel
theorem dX3_findStart_28 : decode cX3_findStart 28 = .ok (.getfield 12, 3) := by decide +kernel
theorem dX3_findStart_31 : decode cX3_findStart 31 = .ok (.iload_n 1, 1) := by decide +kernel
theorem dX3_findStart_32 : decode cX3_findStart 32 = .ok (.invokevirtual 115, 3) := by decide +kernel
theorem dX3_findStart_35 : decode cX3_findStart 35 = .ok (.iconst 2, 1) := by decide +kernel
theorem dX3_findStart_36 : decode cX3_findStart 36 = .ok (.iadd, 1) := by decide +kernel
theorem dX3_findStart_37 : decode cX3_findStart 37 = .ok (.istore 4, 2) := by decide +kernel
theorem dX3_findStart_39 : decode cX3_findStart 39 = .ok (.aload_n 0, 1) := by decide +kernel
theorem dX3_findStart_40 : decode cX3_findStart 40 = .ok (.iload_n 2, 1) := by decide +kernel
theorem dX3_findStart_41 : decode cX3_findStart 41 = .ok (.iload_n 3, 1) := by decide +kernel
theorem dX3_findStart_42 : decode cX3_findStart 42 = .ok (.aload_n 0, 1) := by decide +kernel
theorem dX3_findStart_43 : decode cX3_findStart 43 = .ok (.getfield 12, 3) := by decide +kernel
theorem dX3_findStart_46 : decode cX3_findStart 46 = .ok (.iload_n 1, 1) := by decide +kernel
theorem dX3_findStart_47 : decode cX3_findStart 47 = .ok (.iconst 1, 1) := by decide +kernel
theorem dX3_findStart_48 : decode cX3_findStart 48 = .ok (.invokevirtual 96, 3) := by decide +kernel
theorem dX3_findStart_51 : decode cX3_findStart 51 = .ok (.iload 4, 2) := by decide +kernel
theorem dX3_findStart_53 : decode cX3_findStart 53 = .ok (.invokevirtual 118, 3) := by decide +kernel
theorem dX3_findStart_56 : decode cX3_findStart 56 = .ok (.ireturn, 1) := by decide +kernel
theorem dX3_findGoOn_0 : decode cX3_findGoOn 0 = .ok (.aload_n 0, 1) := by decide +kernel
theorem dX3_findGoOn_1 : decode cX3_findGoOn 1 = .ok (.iload_n 1, 1) := by decide +kernel
theorem dX3_findGoOn_2 : decode cX3_findGoOn 2 = .ok (.invokestatic 122, 3) := by decide +kernel
theorem dX3_findGoOn_5 : decode cX3_findGoOn 5 = .ok (.iconst 1, 1) := by decide +kernel
theorem dX3_findGoOn_6 : decode cX3_findGoOn 6 = .ok (.iadd, 1) := by decide +kernel
theorem dX3_findGoOn_7 : decode cX3_findGoOn 7 = .ok (.iconst 3, 1) := by decide +kernel
theorem dX3_findGoOn_8 : decode cX3_findGoOn 8 = .ok (.iconst 1, 1) := by decide +kernel
theorem dX3_findGoOn_9 : decode cX3_findGoOn 9 = .ok (.iconst 3, 1) := by decide +kernel
theorem dX3_findGoOn_10 : decode cX3_findGoOn 10 = .ok (.invokevirtual 118, 3) := by decide +kernel
theorem dX3_findGoOn_13 : decode cX3_findGoOn 13 = .ok (.ireturn, 1) := by decide +kernel
theorem dX3_findBlock_0 : decode cX3_findBlock 0 = .ok (.iload_n 1, 1) := by decide +kernel
theorem dX3_findBlock_1 : decode cX3_findBlock 1 = .ok (.istore 5, 2) := by decide +kernel
theorem dX3_findBlock_3 : decode cX3_findBlock 3 = .ok (.iload 5, 2) := by decide +kernel
theorem dX3_findBlock_5 : decode cX3_findBlock 5 = .ok (.iload_n 2, 1) := by decide +kernel
theorem dX3_findBlock_6 : decode cX3_findBlock 6 = .ok (.if_icmp .gt 71, 3) := by decide +kernel
theorem dX3_findBlock_9 : decode cX3_findBlock 9 = .ok (.iconst 0, 1) := by decide +kernel
theorem dX3_findBlock_10 : decode cX3_findBlock 10 = .ok (.istore 6, 2) := by decide +kernel
theorem dX3_findBlock_12 : decode cX3_findBlock 12 = .ok (.iload 6, 2) := by decide +kernel
theorem dX3_findBlock_14 : decode cX3_findBlock 14 = .ok (.bipush 24, 2) := by decide +kernel
theorem dX3_findBlock_16 : decode cX3_findBlock 16 = .ok (.iload 4, 2) := by decide +kernel
theorem dX3_findBlock_18 : decode cX3_findBlock 18 = .ok (.isub, 1) := by decide +kernel
theorem dX3_findBlock_19 : decode cX3_findBlock 19 = .ok (.if_icmp .gt 52, 3) := by decide +kernel
theorem dX3_findBlock_22 : decode cX3_findBlock 22 = .ok (.iconst 0, 1) := by decide +kernel
theorem dX3_findBlock_23 : decode cX3_findBlock 23 = .ok (.istore 7, 2) := by decide +kernel
theorem dX3_findBlock_25 : decode cX3_findBlock 25 = .ok (.iload 7, 2) := by decide +kernel
theorem dX3_findBlock_27 : decode cX3_findBlock 27 = .ok (.iconst 5, 1) := by decide +kernel
theorem dX3_findBlock_28 : decode cX3_findBlock 28 = .ok (.iload_n 3, 1) := by decide +kernel
theorem dX3_findBlock_29 : decode cX3_findBlock 29 = .ok (.isub, 1) := by decide +kernel
theorem dX3_findBlock_30 : decode cX3_findBlock 30 = .ok (.if_icmp .gt 35, 3) := by decide +kernel
theorem dX3_findBlock_33 : decode cX3_findBlock 33 = .ok (.iload 5, 2) := by decide +kernel
theorem dX3_findBlock_35 : decode cX3_findBlock 35 = .ok (.iload 7, 2) := by decide +kernel
theorem dX3_findBlock_37 : decode cX3_findBlock 37 = .ok (.iload 6, 2) := by decide +kernel
theorem dX3_findBlock_39 : decode cX3_findBlock 39 = .ok (.invokestatic 72, 3) := by decide +kernel
theorem dX3_findBlock_42 : decode cX3_findBlock 42 = .ok (.istore 8, 2) := by decide +kernel
theorem dX3_findBlock_44 : decode cX3_findBlock 44 = .ok (.aload_n 0, 1) := by decide +kernel
theorem dX3_findBlock_45 : decode cX3_findBlock 45 = .ok (.iload 8, 2) := by decide +kernel
theorem dX3_findBlock_47 : decode cX3_findBlock 47 = .ok (.iload_n 3, 1) := by decide +kernel
theorem dX3_findBlock_48 : decode cX3_findBlock 48 = .ok (.invokevirtual 125, 3) := by decide +kernel
theorem dX3_findBlock_51 : decode cX3_findBlock 51 = .ok (.iload 4, 2) := by decide +kernel
theorem dX3_findBlock_53 : decode cX3_findBlock 53 = .ok (.if_icmp .lt 6, 3) := by decide +kernel
theorem dX3_findBlock_56 : decode cX3_findBlock 56 = .ok (.iload 8, 2) := by decide +kernel
theorem dX3_findBlock_58 : decode cX3_findBlock 58 = .ok (.ireturn, 1) := by decide +kernel
theorem dX3_findBlock_59 : decode cX3_findBlock 59 = .ok (.iinc 7 1, 3) := by decide +kernel
theorem dX3_findBlock_62 : decode cX3_findBlock 62 = .ok (.goto (-37), 3) := by decide +kernel
theorem dX3_findBlock_65 : decode cX3_findBlock 65 = .ok (.iinc 6 1, 3) := by decide +kernel
theorem dX3_findBlock_68 : decode cX3_findBlock 68 = .ok (.goto (-56), 3) := by decide +kernel
theorem dX3_findBlock_71 : decode cX3_findBlock 71 = .ok (.iinc 5 1, 3) := by decide +kernel
theorem dX3_findBlock_74 : decode cX3_findBlock 74 = .ok (.goto (-71), 3) := by decide +kernel
theorem dX3_findBlock_77 : decode cX3_findBlock 77 = .ok (.iconst (-1), 1) := by decide +kernel
theorem dX3_findBlock_78 : decode cX3_findBlock 78 = .ok (.ireturn, 1) := by decide +kernel
theorem dX3_freeRows_0 : decode cX3_freeRows 0 = .ok (.iconst 0, 1) := by decide +kernel
theorem dX3_freeRows_1 : decode cX3_freeRows 1 = .ok (.istore_n 3, 1) := by decide +kernel
theorem dX3_freeRows_2 : decode cX3_freeRows 2 = .ok (.iload_n 1, 1) := by decide +kernel
theorem dX3_freeRows_3 : decode cX3_freeRows 3 = .ok (.invokestatic 128, 3) := by decide +kernel
theorem dX3_freeRows_6 : decode cX3_freeRows 6 = .ok (.istore 4, 2) := by decide +kernel
theorem dX3_freeRows_8 : decode cX3_freeRows 8 = .ok (.iload 4, 2) := by decide +kernel
theorem dX3_freeRows_10 : decode cX3_freeRows 10 = .ok (.bipush 24, 2) := by decide +kernel
theorem dX3_freeRows_12 : decode cX3_freeRows 12 = .ok (.if_icmp .ge 60, 3) := by decide +kernel
theorem dX3_freeRows_15 : decode cX3_freeRows 15 = .ok (.iload_n 1, 1) := by decide +kernel
theorem dX3_freeRows_16 : decode cX3_freeRows 16 = .ok (.iload_n 3, 1) := by decide +kernel
theorem dX3_freeRows_17 : decode cX3_freeRows 17 = .ok (.iconst 5, 1) := by decide +kernel
theorem dX3_freeRows_18 : decode cX3_freeRows 18 = .ok (.imul, 1) := by decide +kernel
theorem dX3_freeRows_19 : decode cX3_freeRows 19 = .ok (.iadd, 1) := by decide +kernel
theorem dX3_freeRows_20 : decode cX3_freeRows 20 = .ok (.istore 5, 2) := by decide +kernel
theorem dX3_freeRows_22 : decode cX3_freeRows 22 = .ok (.iconst 0, 1) := by decide +kernel
theorem dX3_freeRows_23 : decode cX3_freeRows 23 = .ok (.istore 6, 2) := by decide +kernel
theorem dX3_freeRows_25 : decode cX3_freeRows 25 = .ok (.iload 6, 2) := by decide +kernel
theorem dX3_freeRows_27 : decode cX3_freeRows 27 = .ok (.iload_n 2, 1) := by decide +kernel
theorem dX3_freeRows_28 : decode cX3_freeRows 28 = .ok (.if_icmp .ge 35, 3) := by decide +kernel
theorem dX3_freeRows_31 : decode cX3_freeRows 31 = .ok (.iload 5, 2) := by decide +kernel
theorem dX3_freeRows_33 : decode cX3_freeRows 33 = .ok (.iload 6, 2) := by decide +kernel
theorem dX3_freeRows_35 : decode cX3_freeRows 35 = .ok (.iadd, 1) := by decide +kernel
theorem dX3_freeRows_36 : decode cX3_freeRows 36 = .ok (.invokestatic 131, 3) := by decide +kernel
theorem dX3_freeRows_39 : decode cX3_freeRows 39 = .ok (.ifCond .eq 16, 3) := by decide +kernel
theorem dX3_freeRows_42 : decode cX3_freeRows 42 = .ok (.aload_n 0, 1) := by decide +kernel
theorem dX3_freeRows_43 : decode cX3_freeRows 43 = .ok (.getfield 18, 3) := by decide +kernel
theorem dX3_freeRows_46 : decode cX3_freeRows 46 = .ok (.iload 5, 2) := by decide +kernel
theorem dX3_freeRows_48 : decode cX3_freeRows 48 = .ok (.iload 6, 2) := by decide +kernel
theorem dX3_freeRows_50 : decode cX3_freeRows 50 = .ok (.iadd, 1) := by decide +kernel
theorem dX3_freeRows_51 : decode cX3_freeRows 51 = .ok (.iaload, 1) := by decide +kernel
theorem dX3_freeRows_52 : decode cX3_freeRows 52 = .ok (.ifCond .eq 5, 3) := by decide +kernel
theorem dX3_freeRows_55 : decode cX3_freeRows 55 = .ok (.iload_n 3, 1) := by decide +kernel
theorem dX3_freeRows_56 : decode cX3_freeRows 56 = .ok (.ireturn, 1) := by decide +kernel
theorem dX3_freeRows_57 : decode cX3_freeRows 57 = .ok (.iinc 6 1, 3) := by decide +kernel
theorem dX3_freeRows_60 : decode cX3_freeRows 60 = .ok (.goto (-35), 3) := by decide +kernel
theorem dX3_freeRows_63 : decode cX3_freeRows 63 = .ok (.iinc 3 1, 3) := by decide +kernel
theorem dX3_freeRows_66 : decode cX3_freeRows 66 = .ok (.iinc 4 1, 3) := by decide +kernel
theorem dX3_freeRows_69 : decode cX3_freeRows 69 = .ok (.goto (-61), 3) := by decide +kernel
theorem dX3_freeRows_72 : decode cX3_freeRows 72 = .ok (.iload_n 3, 1) := by decide +kernel
theorem dX3_freeRows_73 : decode cX3_freeRows 73 = .ok (.ireturn, 1) := by decide +kernel
theorem dX3_placeStart_0 : decode cX3_placeStart 0 = .ok (.aload_n 0, 1) := by decide +kernel
theorem dX3_placeStart_1 : decode cX3_placeStart 1 = .ok (.getfield 12, 3) := by decide +kernel
theorem dX3_placeStart_4 : decode cX3_placeStart 4 = .ok (.iload_n 1, 1) := by decide +kernel
theorem dX3_placeStart_5 : decode cX3_placeStart 5 = .ok (.iconst 1, 1) := by decide +kernel
theorem dX3_placeStart_6 : decode cX3_placeStart 6 = .ok (.invokevirtual 96, 3) := by decide +kernel
theorem dX3_placeStart_9 : decode cX3_placeStart 9 = .ok (.istore 4, 2) := by decide +kernel
theorem dX3_placeStart_11 : decode cX3_placeStart 11 = .ok (.aload_n 0, 1) := by decide +kernel
theorem dX3_placeStart_12 : decode cX3_placeStart 12 = .ok (.getfield 12, 3) := by decide +kernel
theorem dX3_placeStart_15 : decode cX3_placeStart 15 = .ok (.iload_n 1, 1) := by decide +kernel
theorem dX3_placeStart_16 : decode cX3_placeStart 16 = .ok (.invokevirtual 115, 3) := by decide +kernel
theorem dX3_placeStart_19 : decode cX3_placeStart 19 = .ok (.istore 5, 2) := by decide +kernel
theorem dX3_placeStart_21 : decode cX3_placeStart 21 = .ok (.aload_n 0, 1) := by decide +kernel
theorem dX3_placeStart_22 : decode cX3_placeStart 22 = .ok (.getfield 12, 3) := by decide +kernel
theorem dX3_placeStart_25 : decode cX3_placeStart 25 = .ok (.iload_n 1, 1) := by decide +kernel
theorem dX3_placeStart_26 : decode cX3_placeStart 26 = .ok (.iconst 3, 1) := by decide +kernel
theorem dX3_placeStart_27 : decode cX3_placeStart 27 = .ok (.invokevirtual 96, 3) := by decide +kernel
theorem dX3_placeStart_30 : decode cX3_placeStart 30 = .ok (.istore 6, 2) := by decide +kernel
theorem dX3_placeStart_32 : decode cX3_placeStart 32 = .ok (.aload_n 0, 1) := by decide +kernel
theorem dX3_placeStart_33 : decode cX3_placeStart 33 = .ok (.iload_n 2, 1) := by decide +kernel
theorem dX3_placeStart_34 : decode cX3_placeStart 34 = .ok (.iload 4, 2) := by decide +kernel
theorem dX3_placeStart_36 : decode cX3_placeStart 36 = .ok (.invokevirtual 125, 3) := by decide +kernel
theorem dX3_placeStart_39 : decode cX3_placeStart 39 = .ok (.iload 5, 2) := by decide +kernel
theorem dX3_placeStart_41 : decode cX3_placeStart 41 = .ok (.isub, 1) := by decide +kernel
theorem dX3_placeStart_42 : decode cX3_placeStart 42 = .ok (.istore 7, 2) := by decide +kernel
theorem dX3_placeStart_44 : decode cX3_placeStart 44 = .ok (.aload_n 0, 1) := by decide +kernel
theorem dX3_placeStart_45 : decode cX3_placeStart 45 = .ok (.iload_n 1, 1) := by decide +kernel
theorem dX3_placeStart_46 : decode cX3_placeStart 46 = .ok (.iload 7, 2) := by decide +kernel
theorem dX3_placeStart_48 : decode cX3_placeStart 48 = .ok (.invokevirtual 134, 3) := by decide +kernel
theorem dX3_placeStart_51 : decode cX3_placeStart 51 = .ok (.iload 6, 2) := by decide +kernel
theorem dX3_placeStart_53 : decode cX3_placeStart 53 = .ok (.iload 4, 2) := by decide +kernel
theorem dX3_placeStart_55 : decode cX3_placeStart 55 = .ok (.iload 7, 2) := by decide +kernel
theorem dX3_placeStart_57 : decode cX3_placeStart 57 = .ok (.imul, 1) := by decide +kernel
theorem dX3_placeStart_58 : decode cX3_placeStart 58 = .ok (.if_icmp .gt 27, 3) := by decide +kernel
theorem dX3_placeStart_61 : decode cX3_placeStart 61 = .ok (.aload_n 0, 1) := by decide +kernel
theorem dX3_placeStart_62 : decode cX3_placeStart 62 = .ok (.iload_n 1, 1) := by decide +kernel
theorem dX3_placeStart_63 : decode cX3_placeStart 63 = .ok (.iload_n 2, 1) := by decide +kernel
theorem dX3_placeStart_64 : decode cX3_placeStart 64 = .ok (.iload 4, 2) := by decide +kernel
theorem dX3_placeStart_66 : decode cX3_placeStart 66 = .ok (.iload 5, 2) := by decide +kernel
theorem dX3_placeStart_68 : decode cX3_placeStart 68 = .ok (.iload 6, 2) := by decide +kernel
theorem dX3_placeStart_70 : decode cX3_placeStart 70 = .ok (.iload 4, 2) := by decide +kernel
theorem dX3_placeStart_72 : decode cX3_placeStart 72 = .ok (.iconst 0, 1) := by decide +kernel
theorem dX3_placeStart_73 : decode cX3_placeStart 73 = .ok (.invokestatic 137, 3) := by decide +kernel
theorem dX3_placeStart_76 : decode cX3_placeStart 76 = .ok (.iadd, 1) := by decide +kernel
theorem dX3_placeStart_77 : decode cX3_placeStart 77 = .ok (.iload 6, 2) := by decide +kernel
theorem dX3_placeStart_79 : decode cX3_placeStart 79 = .ok (.iconst 0, 1) := by decide +kernel
theorem dX3_placeStart_80 : decode cX3_placeStart 80 = .ok (.invokevirtual 140, 3) := by decide +kernel
theorem dX3_placeStart_83 : decode cX3_placeStart 83 = .ok (.iconst (-1), 1) := by decide +kernel
theorem dX3_placeStart_84 : decode cX3_placeStart 84 = .ok (.ireturn, 1) := by decide +kernel
theorem dX3_placeStart_85 : decode cX3_placeStart 85 = .ok (.iload_n 3, 1) := by decide +kernel
theorem dX3_placeStart_86 : decode cX3_placeStart 86 = .ok (.iconst (-1), 1) := by decide +kernel
theorem dX3_placeStart_87 : decode cX3_placeStart 87 = .ok (.if_icmp .eq 7, 3) := by decide +kernel
theorem dX3_placeStart_90 : decode cX3_placeStart 90 = .ok (.iconst 1, 1) := by decide +kernel
theorem dX3_placeStart_91 : decode cX3_placeStart 91 = .ok (.goto 4, 3) := by decide +kernel
theorem dX3_placeStart_94 : decode cX3_placeStart 94 = .ok (.iconst 0, 1) := by decide +kernel
theorem dX3_placeStart_95 : decode cX3_placeStart 95 = .ok (.istore 8, 2) := by decide +kernel
theorem dX3_placeStart_97 : decode cX3_placeStart 97 = .ok (.iload 8, 2) := by decide +kernel
theorem dX3_placeStart_99 : decode cX3_placeStart 99 = .ok (.ifCond .eq 10, 3) := by decide +kernel
theorem dX3_placeStart_102 : decode cX3_placeStart 102 = .ok (.iload 7, 2) := by decide +kernel
theorem dX3_placeStart_104 : decode cX3_placeStart 104 = .ok (.iconst 1, 1) := by decide +kernel
theorem dX3_placeStart_105 : decode cX3_placeStart 105 = .ok (.isub, 1) := by decide +kernel
theorem dX3_placeStart_106 : decode cX3_placeStart 106 = .ok (.goto 5, 3) := by decide +kernel
theorem dX3_placeStart_109 : decode cX3_placeStart 109 = .ok (.iload 7, 2) := by decide +kernel
theorem dX3_placeStart_111 : decode cX3_placeStart 111 = .ok (.istore 9, 2) := by decide +kernel
theorem dX3_placeStart_113 : decode cX3_placeStart 113 = .ok (.aload_n 0, 1) := by decide +kernel
theorem dX3_placeStart_114 : decode cX3_placeStart 114 = .ok (.iload_n 1, 1) := by decide +kernel
theorem dX3_placeStart_115 : decode cX3_placeStart 115 = .ok (.iload_n 2, 1) := by decide +kernel
theorem dX3_placeStart_116 : decode cX3_placeStart 116 = .ok (.iload 4, 2) := by decide +kernel
theorem dX3_placeStart_118 : decode cX3_placeStart 118 = .ok (.iload 5, 2) := by decide +kernel
theorem dX3_placeStart_120 : decode cX3_placeStart 120 = .ok (.iload 7, 2) := by decide +kernel
theorem dX3_placeStart_122 : decode cX3_placeStart 122 = .ok (.iadd, 1) := by decide +kernel
theorem dX3_placeStart_123 : decode cX3_placeStart 123 = .ok (.iload 4, 2) := by decide +kernel
theorem dX3_placeStart_125 : decode cX3_placeStart 125 = .ok (.iload 9, 2) := by decide +kernel
theorem dX3_placeStart_127 : decode cX3_placeStart 127 = .ok (.imul, 1) := by decide +kernel
theorem dX3_placeStart_128 : decode cX3_placeStart 128 = .ok (.iload 8, 2) := by decide +kernel
theorem dX3_placeStart_130 : decode cX3_placeStart 130 = .ok (.invokevirtual 140, 3) := by decide +kernel
theorem dX3_placeStart_133 : decode cX3_placeStart 133 = .ok (.iload_n 3, 1) := by decide +kernel
theorem dX3_placeStart_134 : decode cX3_placeStart 134 = .ok (.ireturn, 1) := by decide +kernel
theorem dX3_placeContinuation_0 : decode cX3_placeContinuation 0 = .ok (.aload_n 0, 1) := by decide +kernel
theorem dX3_placeContinuation_1 : decode cX3_placeContinuation 1 = .ok (.iload_n 2, 1) := by decide +kernel
theorem dX3_placeContinuation_2 : decode cX3_placeContinuation 2 = .ok (.iconst 1, 1) := by decide +kernel
theorem dX3_placeContinuation_3 : decode cX3_placeContinuation 3 = .ok (.invokevirtual 125, 3) := by decide +kernel
theorem dX3_placeContinuation_6 : decode cX3_placeContinuation 6 = .ok (.istore 4, 2) := by decide +kernel
theorem dX3_placeContinuation_8 : decode cX3_placeContinuation 8 = .ok (.aload_n 0, 1) := by decide +kernel
theorem dX3_placeContinuation_9 : decode cX3_placeContinuation 9 = .ok (.iload_n 1, 1) := by decide +kernel
theorem dX3_placeContinuation_10 : decode cX3_placeContinuation 10 = .ok (.invokevirtual 144, 3) := by decide +kernel
theorem dX3_placeContinuation_13 : decode cX3_placeContinuation 13 = .ok (.istore 5, 2) := by decide +kernel
theorem dX3_placeContinuation_15 : decode cX3_placeContinuation 15 = .ok (.iload 5, 2) := by decide +kernel
theorem dX3_placeContinuation_17 : decode cX3_placeContinuation 17 = .ok (.iload 4, 2) := by decide +kernel
theorem dX3_placeContinuation_19 : decode cX3_placeContinuation 19 = .ok (.iconst 1, 1) := by decide +kernel
theorem dX3_placeContinuation_20 : decode cX3_placeContinuation 20 = .ok (.isub, 1) := by decide +kernel
theorem dX3_placeContinuation_21 : decode cX3_placeContinuation 21 = .ok (.if_icmp .gt 19, 3) := by decide +kernel
theorem dX3_placeContinuation_24 : decode cX3_placeContinuation 24 = .ok (.aload_n 0, 1) := by decide +kernel
theorem dX3_placeContinuation_25 : decode cX3_placeContinuation 25 = .ok (.iload_n 1, 1) := by decide +kernel
theorem dX3_placeContinuation_26 : decode cX3_placeContinuation 26 = .ok (.iload_n 2, 1) := by decide +kernel
theorem dX3_placeContinuation_27 : decode cX3_placeContinuation 27 = .ok (.iconst 1, 1) := by decide +kernel
theorem dX3_placeContinuation_28 : decode cX3_placeContinuation 28 = .ok (.iconst 1, 1) := by decide +kernel
theorem dX3_placeContinuation_29 : decode cX3_placeContinuation 29 = .ok (.iload 5, 2) := by decide +kernel
theorem dX3_placeContinuation_31 : decode cX3_placeContinuation 31 = .ok (.iadd, 1) := by decide +kernel
theorem dX3_placeContinuation_32 : decode cX3_placeContinuation 32 = .ok (.iload 5, 2) := by decide +kernel
theorem dX3_placeContinuation_34 : decode cX3_placeContinuation 34 = .ok (.iconst 0, 1) := by decide +kernel
theorem dX3_placeContinuation_35 : decode cX3_placeContinuation 35 = .ok (.invokevirtual 140, 3) := by decide +kernel
theorem dX3_placeContinuation_38 : decode cX3_placeContinuation 38 = .ok (.iconst (-1), 1) := by decide +kernel
theorem dX3_placeContinuation_39 : decode cX3_placeContinuation 39 = .ok (.ireturn, 1) := by decide +kernel
theorem dX3_placeContinuation_40 : decode cX3_placeContinuation 40 = .ok (.iload_n 3, 1) := by decide +kernel
theorem dX3_placeContinuation_41 : decode cX3_placeContinuation 41 = .ok (.iconst (-1), 1) := by decide +kernel
theorem dX3_placeContinuation_42 : decode cX3_placeContinuation 42 = .ok (.if_icmp .eq 7, 3) := by decide +kernel
theorem dX3_placeContinuation_45 : decode cX3_placeContinuation 45 = .ok (.iconst 1, 1) := by decide +kernel
theorem dX3_placeContinuation_46 : decode cX3_placeContinuation 46 = .ok (.goto 4, 3) := by decide +kernel
theorem dX3_placeContinuation_49 : decode cX3_placeContinuation 49 = .ok (.iconst 0, 1) := by decide +kernel
theorem dX3_placeContinuation_50 : decode cX3_placeContinuation 50 = .ok (.istore 6, 2) := by decide +kernel
theorem dX3_placeContinuation_52 : decode cX3_placeContinuation 52 = .ok (.aload_n 0, 1) := by decide +kernel
theorem dX3_placeContinuation_53 : decode cX3_placeContinuation 53 = .ok (.iload_n 1, 1) := by decide +kernel
theorem dX3_placeContinuation_54 : decode cX3_placeContinuation 54 = .ok (.iload_n 2, 1) := by decide +kernel
theorem dX3_placeContinuation_55 : decode cX3_placeContinuation 55 = .ok (.iconst 1, 1) := by decide +kernel
theorem dX3_placeContinuation_56 : decode cX3_placeContinuation 56 = .ok (.iload 4, 2) := by decide +kernel
theorem dX3_placeContinuation_58 : decode cX3_placeContinuation 58 = .ok (.iload 6, 2) := by decide +kernel
theorem dX3_placeContinuation_60 : decode cX3_placeContinuation 60 = .ok (.ifCond .eq 10, 3) := by decide +kernel
theorem dX3_placeContinuation_63 : decode cX3_placeContinuation 63 = .ok (.iload 4, 2) := by decide +kernel
theorem dX3_placeContinuation_65 : decode cX3_placeContinuation 65 = .ok (.iconst 2, 1) := by decide +kernel
theorem dX3_placeContinuation_66 : decode cX3_placeContinuation 66 = .ok (.isub, 1) := by decide +kernel
theorem dX3_placeContinuation_67 : decode cX3_placeContinuation 67 = .ok (.goto 7, 3) := by decide +kernel
theorem dX3_placeContinuation_70 : decode cX3_placeContinuation 70 = .ok (.iload 4, 2) := by decide +kernel
theorem dX3_placeContinuation_72 : decode cX3_placeContinuation 72 = .ok (.iconst 1, 1) := by decide +kernel
theorem dX3_placeContinuation_73 : decode cX3_placeContinuation 73 = .ok (.isub, 1) := by decide +kernel
theorem dX3_placeContinuation_74 : decode cX3_placeContinuation 74 = .ok (.iload 6, 2) := by decide +kernel
theorem dX3_placeContinuation_76 : decode cX3_placeContinuation 76 = .ok (.invokevirtual 140, 3) := by decide +kernel
theorem dX3_placeContinuation_79 : decode cX3_placeContinuation 79 = .ok (.iload_n 3, 1) := by decide +kernel
theorem dX3_placeContinuation_80 : decode cX3_placeContinuation 80 = .ok (.ireturn, 1) := by decide +kernel
theorem dX3_putStartDepth_0 : decode cX3_putStartDepth 0 = .ok (.iload_n 1, 1) := by decide +kernel
theorem dX3_putStartDepth_1 : decode cX3_putStartDepth 1 = .ok (.invokestatic 86, 3) := by decide +kernel
theorem dX3_putStartDepth_4 : decode cX3_putStartDepth 4 = .ok (.ifCond .eq 10, 3) := by decide +kernel
theorem dX3_putStartDepth_7 : decode cX3_putStartDepth 7 = .ok (.aload_n 0, 1) := by decide +kernel
theorem dX3_putStartDepth_8 : decode cX3_putStartDepth 8 = .ok (.getfield 40, 3) := by decide +kernel
theorem dX3_putStartDepth_11 : decode cX3_putStartDepth 11 = .ok (.iload_n 1, 1) := by decide +kernel
theorem dX3_putStartDepth_12 : decode cX3_putStartDepth 12 = .ok (.iload_n 2, 1) := by decide +kernel
theorem dX3_putStartDepth_13 : decode cX3_putStartDepth 13 = .ok (.iastore, 1) := by decide +kernel
theorem dX3_putStartDepth_14 : decode cX3_putStartDepth 14 = .ok (.return_, 1) := by decide +kernel
theorem dX3_addPart_0 : decode cX3_addPart 0 = .ok (.aload_n 0, 1) := by decide +kernel
theorem dX3_addPart_1 : decode cX3_addPart 1 = .ok (.iload_n 1, 1) := by decide +kernel
theorem dX3_addPart_2 : decode cX3_addPart 2 = .ok (.invokevirtual 147, 3) := by decide +kernel
theorem dX3_addPart_5 : decode cX3_addPart 5 = .ok (.istore 7, 2) := by decide +kernel
theorem dX3_addPart_7 : decode cX3_addPart 7 = .ok (.iload_n 1, 1) := by decide +kernel
theorem dX3_addPart_8 : decode cX3_addPart 8 = .ok (.invokestatic 86, 3) := by decide +kernel
theorem dX3_addPart_11 : decode cX3_addPart 11 = .ok (.ifCond .eq 14, 3) := by decide +kernel
theorem dX3_addPart_14 : decode cX3_addPart 14 = .ok (.iload 7, 2) := by decide +kernel
theorem dX3_addPart_16 : decode cX3_addPart 16 = .ok (.ifCond .lt 9, 3) := by decide +kernel
theorem dX3_addPart_19 : decode cX3_addPart 19 = .ok (.iload 7, 2) := by decide +kernel
theorem dX3_addPart_21 : decode cX3_addPart 21 = .ok (.iconst 4, 1) := by decide +kernel
theorem dX3_addPart_22 : decode cX3_addPart 22 = .ok (.if_icmp .lt 4, 3) := by decide +kernel
theorem dX3_addPart_25 : decode cX3_addPart 25 = .ok (.return_, 1) := by decide +kernel
theorem dX3_addPart_26 : decode cX3_addPart 26 = .ok (.iload_n 1, 1) := by decide +kernel
theorem dX3_addPart_27 : decode cX3_addPart 27 = .ok (.iconst 4, 1) := by decide +kernel
theorem dX3_addPart_28 : decode cX3_addPart 28 = .ok (.imul, 1) := by decide +kernel
theorem dX3_addPart_29 : decode cX3_addPart 29 = .ok (.iload 7, 2) := by decide +kernel
theorem dX3_addPart_31 : decode cX3_addPart 31 = .ok (.iadd, 1) := by decide +kernel
theorem dX3_addPart_32 : decode cX3_addPart 32 = .ok (.bipush 9, 2) := by decide +kernel
theorem dX3_addPart_34 : decode cX3_addPart 34 = .ok (.imul, 1) := by decide +kernel
theorem dX3_addPart_35 : decode cX3_addPart 35 = .ok (.istore 8, 2) := by decide +kernel
theorem dX3_addPart_37 : decode cX3_addPart 37 = .ok (.aload_n 0, 1) := by decide +kernel
theorem dX3_addPart_38 : decode cX3_addPart 38 = .ok (.getfield 34, 3) := by decide +kernel
theorem dX3_addPart_41 : decode cX3_addPart 41 = .ok (.iload 8, 2) := by decide +kernel
theorem dX3_addPart_43 : decode cX3_addPart 43 = .ok (.iconst 0, 1) := by decide +kernel
theorem dX3_addPart_44 : decode cX3_addPart 44 = .ok (.iadd, 1) := by decide +kernel
theorem dX3_addPart_45 : decode cX3_addPart 45 = .ok (.iload_n 2, 1) := by decide +kernel
theorem dX3_addPart_46 : decode cX3_addPart 46 = .ok (.invokestatic 122, 3) := by decide +kernel
theorem dX3_addPart_49 : decode cX3_addPart 49 = .ok (.iastore, 1) := by decide +kernel
theorem dX3_addPart_50 : decode cX3_addPart 50 = .ok (.aload_n 0, 1) := by decide +kernel
theorem dX3_addPart_51 : decode cX3_addPart 51 = .ok (.getfield 34, 3) := by decide +kernel
theorem dX3_addPart_54 : decode cX3_addPart 54 = .ok (.iload 8, 2) := by decide +kernel
theorem dX3_addPart_56 : decode cX3_addPart 56 = .ok (.iconst 1, 1) := by decide +kernel
theorem dX3_addPart_57 : decode cX3_addPart 57 = .ok (.iadd, 1) := by decide +kernel
theorem dX3_addPart_58 : decode cX3_addPart 58 = .ok (.iload_n 2, 1) := by decide +kernel
theorem dX3_addPart_59 : decode cX3_addPart 59 = .ok (.invokestatic 150, 3) := by decide +kernel
theorem dX3_addPart_62 : decode cX3_addPart 62 = .ok (.iastore, 1) := by decide +kernel
theorem dX3_addPart_63 : decode cX3_addPart 63 = .ok (.aload_n 0, 1) := by decide +kernel
theorem dX3_addPart_64 : decode cX3_addPart 64 = .ok (.getfield 34, 3) := by decide +kernel
theorem dX3_addPart_67 : decode cX3_addPart 67 = .ok (.iload 8, 2) := by decide +kernel
theorem dX3_addPart_69 : decode cX3_addPart 69 = .ok (.iconst 2, 1) := by decide +kernel
theorem dX3_addPart_70 : decode cX3_addPart 70 = .ok (.iadd, 1) := by decide +kernel
theorem dX3_addPart_71 : decode cX3_addPart 71 = .ok (.iload_n 2, 1) := by decide +kernel
theorem dX3_addPart_72 : decode cX3_addPart 72 = .ok (.invokestatic 128, 3) := by decide +kernel
theorem dX3_addPart_75 : decode cX3_addPart 75 = .ok (.iastore, 1) := by decide +kernel
theorem dX3_addPart_76 : decode cX3_addPart 76 = .ok (.aload_n 0, 1) := by decide +kernel
theorem dX3_addPart_77 : decode cX3_addPart 77 = .ok (.getfield 34, 3) := by decide +kernel
theorem dX3_addPart_80 : decode cX3_addPart 80 = .ok (.iload 8, 2) := by decide +kernel
theorem dX3_addPart_82 : decode cX3_addPart 82 = .ok (.iconst 3, 1) := by decide +kernel
theorem dX3_addPart_83 : decode cX3_addPart 83 = .ok (.iadd, 1) := by decide +kernel
theorem dX3_addPart_84 : decode cX3_addPart 84 = .ok (.iload_n 3, 1) := by decide +kernel
theorem dX3_addPart_85 : decode cX3_addPart 85 = .ok (.iastore, 1) := by decide +kernel
theorem dX3_addPart_86 : decode cX3_addPart 86 = .ok (.aload_n 0, 1) := by decide +kernel
theorem dX3_addPart_87 : decode cX3_addPart 87 = .ok (.getfield 34, 3) := by decide +kernel
theorem dX3_addPart_90 : decode cX3_addPart 90 = .ok (.iload 8, 2) := by decide +kernel
theorem dX3_addPart_92 : decode cX3_addPart 92 = .ok (.iconst 4, 1) := by decide +kernel
theorem dX3_addPart_93 : decode cX3_addPart 93 = .ok (.iadd, 1) := by decide +kernel
theorem dX3_addPart_94 : decode cX3_addPart 94 = .ok (.iload 4, 2) := by decide +kernel
theorem dX3_addPart_96 : decode cX3_addPart 96 = .ok (.iastore, 1) := by decide +kernel
theorem dX3_addPart_97 : decode cX3_addPart 97 = .ok (.aload_n 0, 1) := by decide +kernel
theorem dX3_addPart_98 : decode cX3_addPart 98 = .ok (.getfield 34, 3) := by decide +kernel
theorem dX3_addPart_101 : decode cX3_addPart 101 = .ok (.iload 8, 2) := by decide +kernel
theorem dX3_addPart_103 : decode cX3_addPart 103 = .ok (.iconst 5, 1) := by decide +kernel
theorem dX3_addPart_104 : decode cX3_addPart 104 = .ok (.iadd, 1) := by decide +kernel
theorem dX3_addPart_105 : decode cX3_addPart 105 = .ok (.iload 5, 2) := by decide +kernel
theorem dX3_addPart_107 : decode cX3_addPart 107 = .ok (.iastore, 1) := by decide +kernel
theorem dX3_addPart_108 : decode cX3_addPart 108 = .ok (.aload_n 0, 1) := by decide +kernel
theorem dX3_addPart_109 : decode cX3_addPart 109 = .ok (.getfield 34, 3) := by decide +kernel
theorem dX3_addPart_112 : decode cX3_addPart 112 = .ok (.iload 8, 2) := by decide +kernel
theorem dX3_addPart_114 : decode cX3_addPart 114 = .ok (.bipush 6, 2) := by decide +kernel
theorem dX3_addPart_116 : decode cX3_addPart 116 = .ok (.iadd, 1) := by decide +kernel
theorem dX3_addPart_117 : decode cX3_addPart 117 = .ok (.aload_n 0, 1) := by decide +kernel
theorem dX3_addPart_118 : decode cX3_addPart 118 = .ok (.getfield 37, 3) := by decide +kernel
theorem dX3_addPart_121 : decode cX3_addPart 121 = .ok (.iload_n 1, 1) := by decide +kernel
theorem dX3_addPart_122 : decode cX3_addPart 122 = .ok (.iaload, 1) := by decide +kernel
theorem dX3_addPart_123 : decode cX3_addPart 123 = .ok (.iastore, 1) := by decide +kernel
theorem dX3_addPart_124 : decode cX3_addPart 124 = .ok (.aload_n 0, 1) := by decide +kernel
theorem dX3_addPart_125 : decode cX3_addPart 125 = .ok (.getfield 34, 3) := by decide +kernel
theorem dX3_addPart_128 : decode cX3_addPart 128 = .ok (.iload 8, 2) := by decide +kernel
theorem dX3_addPart_130 : decode cX3_addPart 130 = .ok (.bipush 7, 2) := by decide +kernel
theorem dX3_addPart_132 : decode cX3_addPart 132 = .ok (.iadd, 1) := by decide +kernel
theorem dX3_addPart_133 : decode cX3_addPart 133 = .ok (.iload 6, 2) := by decide +kernel
theorem dX3_addPart_135 : decode cX3_addPart 135 = .ok (.ifCond .eq 7, 3) := by decide +kernel
theorem dX3_addPart_138 : decode cX3_addPart 138 = .ok (.iconst 1, 1) := by decide +kernel
theorem dX3_addPart_139 : decode cX3_addPart 139 = .ok (.goto 4, 3) := by decide +kernel
theorem dX3_addPart_142 : decode cX3_addPart 142 = .ok (.iconst 0, 1) := by decide +kernel
theorem dX3_addPart_143 : decode cX3_addPart 143 = .ok (.iastore, 1) := by decide +kernel
theorem dX3_addPart_144 : decode cX3_addPart 144 = .ok (.aload_n 0, 1) := by decide +kernel
theorem dX3_addPart_145 : decode cX3_addPart 145 = .ok (.getfield 34, 3) := by decide +kernel
theorem dX3_addPart_148 : decode cX3_addPart 148 = .ok (.iload 8, 2) := by decide +kernel
theorem dX3_addPart_150 : decode cX3_addPart 150 = .ok (.bipush 8, 2) := by decide +kernel
theorem dX3_addPart_152 : decode cX3_addPart 152 = .ok (.iadd, 1) := by decide +kernel
theorem dX3_addPart_153 : decode cX3_addPart 153 = .ok (.iload 7, 2) := by decide +kernel
theorem dX3_addPart_155 : decode cX3_addPart 155 = .ok (.ifCond .ne 14, 3) := by decide +kernel
theorem dX3_addPart_158 : decode cX3_addPart 158 = .ok (.aload_n 0, 1) := by decide +kernel
theorem dX3_addPart_159 : decode cX3_addPart 159 = .ok (.getfield 12, 3) := by decide +kernel
theorem dX3_addPart_162 : decode cX3_addPart 162 = .ok (.iload_n 1, 1) := by decide +kernel
theorem dX3_addPart_163 : decode cX3_addPart 163 = .ok (.invokevirtual 115, 3) := by decide +kernel
theorem dX3_addPart_166 : decode cX3_addPart 166 = .ok (.goto 4, 3) := by decide +kernel
theorem dX3_addPart_169 : decode cX3_addPart 169 = .ok (.iconst 1, 1) := by decide +kernel
theorem dX3_addPart_170 : decode cX3_addPart 170 = .ok (.iastore, 1) := by decide +kernel
theorem dX3_addPart_171 : decode cX3_addPart 171 = .ok (.aload_n 0, 1) := by decide +kernel
theorem dX3_addPart_172 : decode cX3_addPart 172 = .ok (.getfield 37, 3) := by decide +kernel
theorem dX3_addPart_175 : decode cX3_addPart 175 = .ok (.iload_n 1, 1) := by decide +kernel
theorem dX3_addPart_176 : decode cX3_addPart 176 = .ok (.dup2, 1) := by decide +kernel
theorem dX3_addPart_177 : decode cX3_addPart 177 = .ok (.iaload, 1) := by decide +kernel
theorem dX3_addPart_178 : decode cX3_addPart 178 = .ok (.iload 5, 2) := by decide +kernel
theorem dX3_addPart_180 : decode cX3_addPart 180 = .ok (.iadd, 1) := by decide +kernel
theorem dX3_addPart_181 : decode cX3_addPart 181 = .ok (.iastore, 1) := by decide +kernel
theorem dX3_addPart_182 : decode cX3_addPart 182 = .ok (.aload_n 0, 1) := by decide +kernel
theorem dX3_addPart_183 : decode cX3_addPart 183 = .ok (.getfield 31, 3) := by decide +kernel
theorem dX3_addPart_186 : decode cX3_addPart 186 = .ok (.iload_n 1, 1) := by decide +kernel
theorem dX3_addPart_187 : decode cX3_addPart 187 = .ok (.iload 7, 2) := by decide +kernel
theorem dX3_addPart_189 : decode cX3_addPart 189 = .ok (.iconst 1, 1) := by decide +kernel
theorem dX3_addPart_190 : decode cX3_addPart 190 = .ok (.iadd, 1) := by decide +kernel
theorem dX3_addPart_191 : decode cX3_addPart 191 = .ok (.iastore, 1) := by decide +kernel
theorem dX3_addPart_192 : decode cX3_addPart 192 = .ok (.return_, 1) := by decide +kernel
theorem dX3_paintPart_0 : decode cX3_paintPart 0 = .ok (.aload_n 0, 1) := by decide +kernel
theorem dX3_paintPart_1 : decode cX3_paintPart 1 = .ok (.iload_n 1, 1) := by decide +kernel
theorem dX3_paintPart_2 : decode cX3_paintPart 2 = .ok (.iload_n 2, 1) := by decide +kernel
theorem dX3_paintPart_3 : decode cX3_paintPart 3 = .ok (.iconst 3, 1) := by decide +kernel
theorem dX3_paintPart_4 : decode cX3_paintPart 4 = .ok (.invokevirtual 153, 3) := by decide +kernel
theorem dX3_paintPart_7 : decode cX3_paintPart 7 = .ok (.istore_n 3, 1) := by decide +kernel
theorem dX3_paintPart_8 : decode cX3_paintPart 8 = .ok (.aload_n 0, 1) := by decide +kernel
theorem dX3_paintPart_9 : decode cX3_paintPart 9 = .ok (.iload_n 1, 1) := by decide +kernel
theorem dX3_paintPart_10 : decode cX3_paintPart 10 = .ok (.iload_n 2, 1) := by decide +kernel
theorem dX3_paintPart_11 : decode cX3_paintPart 11 = .ok (.iconst 5, 1) := by decide +kernel
theorem dX3_paintPart_12 : decode cX3_paintPart 12 = .ok (.invokevirtual 153, 3) := by decide +kernel
theorem dX3_paintPart_15 : decode cX3_paintPart 15 = .ok (.istore 4, 2) := by decide +kernel
theorem dX3_paintPart_17 : decode cX3_paintPart 17 = .ok (.aload_n 0, 1) := by decide +kernel
theorem dX3_paintPart_18 : decode cX3_paintPart 18 = .ok (.iload_n 1, 1) := by decide +kernel
theorem dX3_paintPart_19 : decode cX3_paintPart 19 = .ok (.iload_n 2, 1) := by decide +kernel
theorem dX3_paintPart_20 : decode cX3_paintPart 20 = .ok (.bipush 7, 2) := by decide +kernel
theorem dX3_paintPart_22 : decode cX3_paintPart 22 = .ok (.invokevirtual 153, 3) := by decide +kernel
theorem dX3_paintPart_25 : decode cX3_paintPart 25 = .ok (.istore 5, 2) := by decide +kernel
theorem dX3_paintPart_27 : decode cX3_paintPart 27 = .ok (.aload_n 0, 1) := by decide +kernel
theorem dX3_paintPart_28 : decode cX3_paintPart 28 = .ok (.iload_n 1, 1) := by decide +kernel
theorem dX3_paintPart_29 : decode cX3_paintPart 29 = .ok (.iload_n 2, 1) := by decide +kernel
theorem dX3_paintPart_30 : decode cX3_paintPart 30 = .ok (.invokevirtual 156, 3) := by decide +kernel
theorem dX3_paintPart_33 : decode cX3_paintPart 33 = .ok (.aload_n 0, 1) := by decide +kernel
theorem dX3_paintPart_34 : decode cX3_paintPart 34 = .ok (.iload_n 1, 1) := by decide +kernel
theorem dX3_paintPart_35 : decode cX3_paintPart 35 = .ok (.iload_n 2, 1) := by decide +kernel
theorem dX3_paintPart_36 : decode cX3_paintPart 36 = .ok (.invokevirtual 159, 3) := by decide +kernel
theorem dX3_paintPart_39 : decode cX3_paintPart 39 = .ok (.istore 6, 2) := by decide +kernel
theorem dX3_paintPart_41 : decode cX3_paintPart 41 = .ok (.aload_n 0, 1) := by decide +kernel
theorem dX3_paintPart_42 : decode cX3_paintPart 42 = .ok (.iload_n 1, 1) := by decide +kernel
theorem dX3_paintPart_43 : decode cX3_paintPart 43 = .ok (.iload_n 2, 1) := by decide +kernel
theorem dX3_paintPart_44 : decode cX3_paintPart 44 = .ok (.iconst 4, 1) := by decide +kernel
theorem dX3_paintPart_45 : decode cX3_paintPart 45 = .ok (.invokevirtual 153, 3) := by decide +kernel
theorem dX3_paintPart_48 : decode cX3_paintPart 48 = .ok (.aload_n 0, 1) := by decide +kernel
theorem dX3_paintPart_49 : decode cX3_paintPart 49 = .ok (.iload_n 1, 1) := by decide +kernel
theorem dX3_paintPart_50 : decode cX3_paintPart 50 = .ok (.iload_n 2, 1) := by decide +kernel
theorem dX3_paintPart_51 : decode cX3_paintPart 51 = .ok (.bipush 8, 2) := by decide +kernel
theorem dX3_paintPart_53 : decode cX3_paintPart 53 = .ok (.invokevirtual 153, 3) := by decide +kernel
theorem dX3_paintPart_56 : decode cX3_paintPart 56 = .ok (.isub, 1) := by decide +kernel
theorem dX3_paintPart_57 : decode cX3_paintPart 57 = .ok (.iload 5, 2) := by decide +kernel
theorem dX3_paintPart_59 : decode cX3_paintPart 59 = .ok (.isub, 1) := by decide +kernel
theorem dX3_paintPart_60 : decode cX3_paintPart 60 = .ok (.istore 7, 2) := by decide +kernel
theorem dX3_paintPart_62 : decode cX3_paintPart 62 = .ok (.aload_n 0, 1) := by decide +kernel
theorem dX3_paintPart_63 : decode cX3_paintPart 63 = .ok (.iload 6, 2) := by decide +kernel
theorem dX3_paintPart_65 : decode cX3_paintPart 65 = .ok (.iload_n 3, 1) := by decide +kernel
theorem dX3_paintPart_66 : decode cX3_paintPart 66 = .ok (.iload 7, 2) := by decide +kernel
theorem dX3_paintPart_68 : decode cX3_paintPart 68 = .ok (.bipush 8, 2) := by decide +kernel
theorem dX3_paintPart_70 : decode cX3_paintPart 70 = .ok (.iload_n 1, 1) := by decide +kernel
theorem dX3_paintPart_71 : decode cX3_paintPart 71 = .ok (.invokevirtual 76, 3) := by decide +kernel
theorem dX3_paintPart_74 : decode cX3_paintPart 74 = .ok (.iconst 0, 1) := by decide +kernel
theorem dX3_paintPart_75 : decode cX3_paintPart 75 = .ok (.istore 8, 2) := by decide +kernel
theorem dX3_paintPart_77 : decode cX3_paintPart 77 = .ok (.iload 8, 2) := by decide +kernel
theorem dX3_paintPart_79 : decode cX3_paintPart 79 = .ok (.iload_n 3, 1) := by decide +kernel
theorem dX3_paintPart_80 : decode cX3_paintPart 80 = .ok (.if_icmp .ge 29, 3) := by decide +kernel
theorem dX3_paintPart_83 : decode cX3_paintPart 83 = .ok (.aload_n 0, 1) := by decide +kernel
theorem dX3_paintPart_84 : decode cX3_paintPart 84 = .ok (.iload 6, 2) := by decide +kernel
theorem dX3_paintPart_86 : decode cX3_paintPart 86 = .ok (.iload 8, 2) := by decide +kernel
theorem dX3_paintPart_88 : decode cX3_paintPart 88 = .ok (.iadd, 1) := by decide +kernel
theorem dX3_paintPart_89 : decode cX3_paintPart 89 = .ok (.iconst 1, 1) := by decide +kernel
theorem dX3_paintPart_90 : decode cX3_paintPart 90 = .ok (.iload 4, 2) := by decide +kernel
theorem dX3_paintPart_92 : decode cX3_paintPart 92 = .ok (.iload_n 3, 1) := by decide +kernel
theorem dX3_paintPart_93 : decode cX3_paintPart 93 = .ok (.iload 8, 2) := by decide +kernel
theorem dX3_paintPart_95 : decode cX3_paintPart 95 = .ok (.invokestatic 137, 3) := by decide +kernel
theorem dX3_paintPart_98 : decode cX3_paintPart 98 = .ok (.iconst 5, 1) := by decide +kernel
theorem dX3_paintPart_99 : decode cX3_paintPart 99 = .ok (.iload_n 1, 1) := by decide +kernel
theorem dX3_paintPart_100 : decode cX3_paintPart 100 = .ok (.invokevirtual 76, 3) := by decide +kernel
theorem dX3_paintPart_103 : decode cX3_paintPart 103 = .ok (.iinc 8 1, 3) := by decide +kernel
theorem dX3_paintPart_106 : decode cX3_paintPart 106 = .ok (.goto (-29), 3) := by decide +kernel
theorem dX3_paintPart_109 : decode cX3_paintPart 109 = .ok (.aload_n 0, 1) := by decide +kernel
theorem dX3_paintPart_110 : decode cX3_paintPart 110 = .ok (.iload 6, 2) := by decide +kernel
theorem dX3_paintPart_112 : decode cX3_paintPart 112 = .ok (.iload 7, 2) := by decide +kernel
theorem dX3_paintPart_114 : decode cX3_paintPart 114 = .ok (.iconst 5, 1) := by decide +kernel
theorem dX3_paintPart_115 : decode cX3_paintPart 115 = .ok (.imul, 1) := by decide +kernel
theorem dX3_paintPart_116 : decode cX3_paintPart 116 = .ok (.iadd, 1) := by decide +kernel
theorem dX3_paintPart_117 : decode cX3_paintPart 117 = .ok (.iload_n 3, 1) := by decide +kernel
theorem dX3_paintPart_118 : decode cX3_paintPart 118 = .ok (.iload 5, 2) := by decide +kernel
theorem dX3_paintPart_120 : decode cX3_paintPart 120 = .ok (.bipush 6, 2) := by decide +kernel
theorem dX3_paintPart_122 : decode cX3_paintPart 122 = .ok (.iload_n 1, 1) := by decide +kernel
theorem dX3_paintPart_123 : decode cX3_paintPart 123 = .ok (.invokevirtual 76, 3) := by decide +kernel
theorem dX3_paintPart_126 : decode cX3_paintPart 126 = .ok (.return_, 1) := by decide +kernel
theorem dX3_paintPartHead_0 : decode cX3_paintPartHead 0 = .ok (.aload_n 0, 1) := by decide +kernel
theorem dX3_paintPartHead_1 : decode cX3_paintPartHead 1 = .ok (.iload_n 1, 1) := by decide +kernel
theorem dX3_paintPartHead_2 : decode cX3_paintPartHead 2 = .ok (.iload_n 2, 1) := by decide +kernel
theorem dX3_paintPartHead_3 : decode cX3_paintPartHead 3 = .ok (.invokevirtual 162, 3) := by decide +kernel
theorem dX3_paintPartHead_6 : decode cX3_paintPartHead 6 = .ok (.istore_n 3, 1) := by decide +kernel
theorem dX3_paintPartHead_7 : decode cX3_paintPartHead 7 = .ok (.aload_n 0, 1) := by decide +kernel
theorem dX3_paintPartHead_8 : decode cX3_paintPartHead 8 = .ok (.iload_n 1, 1) := by decide +kernel
theorem dX3_paintPartHead_9 : decode cX3_paintPartHead 9 = .ok (.iload_n 2, 1) := by decide +kernel
theorem dX3_paintPartHead_10 : decode cX3_paintPartHead 10 = .ok (.iconst 3, 1) := by decide +kernel
theorem dX3_paintPartHead_11 : decode cX3_paintPartHead 11 = .ok (.invokevirtual 153, 3) := by decide +kernel
theorem dX3_paintPartHead_14 : decode cX3_paintPartHead 14 = .ok (.istore 4, 2) := by decide +kernel
theorem dX3_paintPartHead_16 : decode cX3_paintPartHead 16 = .ok (.iload_n 2, 1) := by decide +kernel
theorem dX3_paintPartHead_17 : decode cX3_paintPartHead 17 = .ok (.ifCond .le 15, 3) := by decide +kernel
theorem dX3_paintPartHead_20 : decode cX3_paintPartHead 20 = .ok (.aload_n 0, 1) := by decide +kernel
theorem dX3_paintPartHead_21 : decode cX3_paintPartHead 21 = .ok (.iload_n 3, 1) := by decide +kernel
theorem dX3_paintPartHead_22 : decode cX3_paintPartHead 22 = .ok (.iload 4, 2) := by decide +kernel
theorem dX3_paintPartHead_24 : decode cX3_paintPartHead 24 = .ok (.iconst 1, 1) := by decide +kernel
theorem dX3_paintPartHead_25 : decode cX3_paintPartHead 25 = .ok (.bipush 7, 2) := by decide +kernel
theorem dX3_paintPartHead_27 : decode cX3_paintPartHead 27 = .ok (.iload_n 1, 1) := by decide +kernel
theorem dX3_paintPartHead_28 : decode cX3_paintPartHead 28 = .ok (.invokevirtual 76, 3) := by decide +kernel
theorem dX3_paintPartHead_31 : decode cX3_paintPartHead 31 = .ok (.return_, 1) := by decide +kernel
theorem dX3_paintPartHead_32 : decode cX3_paintPartHead 32 = .ok (.aload_n 0, 1) := by decide +kernel
theorem dX3_paintPartHead_33 : decode cX3_paintPartHead 33 = .ok (.getfield 12, 3) := by decide +kernel
theorem dX3_paintPartHead_36 : decode cX3_paintPartHead 36 = .ok (.iload_n 1, 1) := by decide +kernel
theorem dX3_paintPartHead_37 : decode cX3_paintPartHead 37 = .ok (.iconst 2, 1) := by decide +kernel
theorem dX3_paintPartHead_38 : decode cX3_paintPartHead 38 = .ok (.invokevirtual 96, 3) := by decide +kernel
theorem dX3_paintPartHead_41 : decode cX3_paintPartHead 41 = .ok (.istore 5, 2) := by decide +kernel
theorem dX3_paintPartHead_43 : decode cX3_paintPartHead 43 = .ok (.aload_n 0, 1) := by decide +kernel
theorem dX3_paintPartHead_44 : decode cX3_paintPartHead 44 = .ok (.getfield 12, 3) := by decide +kernel
theorem dX3_paintPartHead_47 : decode cX3_paintPartHead 47 = .ok (.iload_n 1, 1) := by decide +kernel
theorem dX3_paintPartHead_48 : decode cX3_paintPartHead 48 = .ok (.iconst 5, 1) := by decide +kernel
theorem dX3_paintPartHead_49 : decode cX3_paintPartHead 49 = .ok (.invokevirtual 96, 3) := by decide +kernel
theorem dX3_paintPartHead_52 : decode cX3_paintPartHead 52 = .ok (.istore 6, 2) := by decide +kernel
theorem dX3_paintPartHead_54 : decode cX3_paintPartHead 54 = .ok (.aload_n 0, 1) := by decide +kernel
theorem dX3_paintPartHead_55 : decode cX3_paintPartHead 55 = .ok (.getfield 12, 3) := by decide +kernel
theorem dX3_paintPartHead_58 : decode cX3_paintPartHead 58 = .ok (.iload_n 1, 1) := by decide +kernel
theorem dX3_paintPartHead_59 : decode cX3_paintPartHead 59 = .ok (.bipush 6, 2) := by decide +kernel
theorem dX3_paintPartHead_61 : decode cX3_paintPartHead 61 = .ok (.invokevirtual 96, 3) := by decide +kernel
theorem dX3_paintPartHead_64 : decode cX3_paintPartHead 64 = .ok (.istore 7, 2) := by decide +kernel
theorem dX3_paintPartHead_66 : decode cX3_paintPartHead 66 = .ok (.aload_n 0, 1) := by decide +kernel
theorem dX3_paintPartHead_67 : decode cX3_paintPartHead 67 = .ok (.iload_n 3, 1) := by decide +kernel
theorem dX3_paintPartHead_68 : decode cX3_paintPartHead 68 = .ok (.iload 4, 2) := by decide +kernel
theorem dX3_paintPartHead_70 : decode cX3_paintPartHead 70 = .ok (.iload 5, 2) := by decide +kernel
theorem dX3_paintPartHead_72 : decode cX3_paintPartHead 72 = .ok (.iconst 2, 1) := by decide +kernel
theorem dX3_paintPartHead_73 : decode cX3_paintPartHead 73 = .ok (.iload_n 1, 1) := by decide +kernel
theorem dX3_paintPartHead_74 : decode cX3_paintPartHead 74 = .ok (.invokevirtual 76, 3) := by decide +kernel
theorem dX3_paintPartHead_77 : decode cX3_paintPartHead 77 = .ok (.aload_n 0, 1) := by decide +kernel
theorem dX3_paintPartHead_78 : decode cX3_paintPartHead 78 = .ok (.iload_n 3, 1) := by decide +kernel
theorem dX3_paintPartHead_79 : decode cX3_paintPartHead 79 = .ok (.iload 5, 2) := by decide +kernel
theorem dX3_paintPartHead_81 : decode cX3_paintPartHead 81 = .ok (.iconst 5, 1) := by decide +kernel
theorem dX3_paintPartHead_82 : decode cX3_paintPartHead 82 = .ok (.imul, 1) := by decide +kernel
theorem dX3_paintPartHead_83 : decode cX3_paintPartHead 83 = .ok (.iadd, 1) := by decide +kernel
theorem dX3_paintPartHead_84 : decode cX3_paintPartHead 84 = .ok (.iload 4, 2) := by decide +kernel
theorem dX3_paintPartHead_86 : decode cX3_paintPartHead 86 = .ok (.iload 6, 2) := by decide +kernel
theorem dX3_paintPartHead_88 : decode cX3_paintPartHead 88 = .ok (.iconst 3, 1) := by decide +kernel
theorem dX3_paintPartHead_89 : decode cX3_paintPartHead 89 = .ok (.iload_n 1, 1) := by decide +kernel
theorem dX3_paintPartHead_90 : decode cX3_paintPartHead 90 = .ok (.invokevirtual 76, 3) := by decide +kernel
theorem dX3_paintPartHead_93 : decode cX3_paintPartHead 93 = .ok (.aload_n 0, 1) := by decide +kernel
theorem dX3_paintPartHead_94 : decode cX3_paintPartHead 94 = .ok (.iload_n 3, 1) := by decide +kernel
theorem dX3_paintPartHead_95 : decode cX3_paintPartHead 95 = .ok (.iload 5, 2) := by decide +kernel
theorem dX3_paintPartHead_97 : decode cX3_paintPartHead 97 = .ok (.iload 6, 2) := by decide +kernel
theorem dX3_paintPartHead_99 : decode cX3_paintPartHead 99 = .ok (.iadd, 1) := by decide +kernel
theorem dX3_paintPartHead_100 : decode cX3_paintPartHead 100 = .ok (.iconst 5, 1) := by decide +kernel
theorem dX3_paintPartHead_101 : decode cX3_paintPartHead 101 = .ok (.imul, 1) := by decide +kernel
theorem dX3_paintPartHead_102 : decode cX3_paintPartHead 102 = .ok (.iadd, 1) := by decide +kernel
theorem dX3_paintPartHead_103 : decode cX3_paintPartHead 103 = .ok (.iload 4, 2) := by decide +kernel
theorem dX3_paintPartHead_105 : decode cX3_paintPartHead 105 = .ok (.iload 7, 2) := by decide +kernel
theorem dX3_paintPartHead_107 : decode cX3_paintPartHead 107 = .ok (.iconst 4, 1) := by decide +kernel
theorem dX3_paintPartHead_108 : decode cX3_paintPartHead 108 = .ok (.iload_n 1, 1) := by decide +kernel
theorem dX3_paintPartHead_109 : decode cX3_paintPartHead 109 = .ok (.invokevirtual 76, 3) := by decide +kernel
theorem dX3_paintPartHead_112 : decode cX3_paintPartHead 112 = .ok (.return_, 1) := by decide +kernel
theorem dX3_paintBlock_0 : decode cX3_paintBlock 0 = .ok (.iconst 0, 1) := by decide +kernel
theorem dX3_paintBlock_1 : decode cX3_paintBlock 1 = .ok (.istore 6, 2) := by decide +kernel
theorem dX3_paintBlock_3 : decode cX3_paintBlock 3 = .ok (.iload 6, 2) := by decide +kernel
theorem dX3_paintBlock_5 : decode cX3_paintBlock 5 = .ok (.iload_n 3, 1) := by decide +kernel
theorem dX3_paintBlock_6 : decode cX3_paintBlock 6 = .ok (.if_icmp .ge 61, 3) := by decide +kernel
theorem dX3_paintBlock_9 : decode cX3_paintBlock 9 = .ok (.iconst 0, 1) := by decide +kernel
theorem dX3_paintBlock_10 : decode cX3_paintBlock 10 = .ok (.istore 7, 2) := by decide +kernel
theorem dX3_paintBlock_12 : decode cX3_paintBlock 12 = .ok (.iload 7, 2) := by decide +kernel
theorem dX3_paintBlock_14 : decode cX3_paintBlock 14 = .ok (.iload_n 2, 1) := by decide +kernel
theorem dX3_paintBlock_15 : decode cX3_paintBlock 15 = .ok (.if_icmp .ge 46, 3) := by decide +kernel
theorem dX3_paintBlock_18 : decode cX3_paintBlock 18 = .ok (.iload_n 1, 1) := by decide +kernel
theorem dX3_paintBlock_19 : decode cX3_paintBlock 19 = .ok (.iload 6, 2) := by decide +kernel
theorem dX3_paintBlock_21 : decode cX3_paintBlock 21 = .ok (.iconst 5, 1) := by decide +kernel
theorem dX3_paintBlock_22 : decode cX3_paintBlock 22 = .ok (.imul, 1) := by decide +kernel
theorem dX3_paintBlock_23 : decode cX3_paintBlock 23 = .ok (.iadd, 1) := by decide +kernel
theorem dX3_paintBlock_24 : decode cX3_paintBlock 24 = .ok (.iload 7, 2) := by decide +kernel
theorem dX3_paintBlock_26 : decode cX3_paintBlock 26 = .ok (.iadd, 1) := by decide +kernel
theorem dX3_paintBlock_27 : decode cX3_paintBlock 27 = .ok (.istore 8, 2) := by decide +kernel
theorem dX3_paintBlock_29 : decode cX3_paintBlock 29 = .ok (.iload 8, 2) := by decide +kernel
theorem dX3_paintBlock_31 : decode cX3_paintBlock 31 = .ok (.invokestatic 131, 3) := by decide +kernel
theorem dX3_paintBlock_34 : decode cX3_paintBlock 34 = .ok (.ifCond .eq 21, 3) := by decide +kernel
theorem dX3_paintBlock_37 : decode cX3_paintBlock 37 = .ok (.aload_n 0, 1) := by decide +kernel
theorem dX3_paintBlock_38 : decode cX3_paintBlock 38 = .ok (.getfield 18, 3) := by decide +kernel
theorem dX3_paintBlock_41 : decode cX3_paintBlock 41 = .ok (.iload 8, 2) := by decide +kernel
theorem dX3_paintBlock_43 : decode cX3_paintBlock 43 = .ok (.iload 4, 2) := by decide +kernel
theorem dX3_paintBlock_45 : decode cX3_paintBlock 45 = .ok (.iastore, 1) := by decide +kernel
theorem dX3_paintBlock_46 : decode cX3_paintBlock 46 = .ok (.aload_n 0, 1) := by decide +kernel
theorem dX3_paintBlock_47 : decode cX3_paintBlock 47 = .ok (.getfield 22, 3) := by decide +kernel
theorem dX3_paintBlock_50 : decode cX3_paintBlock 50 = .ok (.iload 8, 2) := by decide +kernel
theorem dX3_paintBlock_52 : decode cX3_paintBlock 52 = .ok (.iload 5, 2) := by decide +kernel
theorem dX3_paintBlock_54 : decode cX3_paintBlock 54 = .ok (.iastore, 1) := by decide +kernel
theorem dX3_paintBlock_55 : decode cX3_paintBlock 55 = .ok (.iinc 7 1, 3) := by decide +kernel
theorem dX3_paintBlock_58 : decode cX3_paintBlock 58 = .ok (.goto (-46), 3) := by decide +kernel
theorem dX3_paintBlock_61 : decode cX3_paintBlock 61 = .ok (.iinc 6 1, 3) := by decide +kernel
theorem dX3_paintBlock_64 : decode cX3_paintBlock 64 = .ok (.goto (-61), 3) := by decide +kernel
theorem dX3_paintBlock_67 : decode cX3_paintBlock 67 = .ok (.return_, 1) := by decide +kernel
theorem dX3_linesOfColumn_0 : decode cX3_linesOfColumn 0 = .ok (.iload_n 1, 1) := by decide +kernel
theorem dX3_linesOfColumn_1 : decode cX3_linesOfColumn 1 = .ok (.iconst 1, 1) := by decide +kernel
theorem dX3_linesOfColumn_2 : decode cX3_linesOfColumn 2 = .ok (.if_icmp .ge 7, 3) := by decide +kernel
theorem dX3_linesOfColumn_5 : decode cX3_linesOfColumn 5 = .ok (.iconst 0, 1) := by decide +kernel
theorem dX3_linesOfColumn_6 : decode cX3_linesOfColumn 6 = .ok (.goto 12, 3) := by decide +kernel
theorem dX3_linesOfColumn_9 : decode cX3_linesOfColumn 9 = .ok (.iload_n 0, 1) := by decide +kernel
theorem dX3_linesOfColumn_10 : decode cX3_linesOfColumn 10 = .ok (.iload_n 1, 1) := by decide +kernel
theorem dX3_linesOfColumn_11 : decode cX3_linesOfColumn 11 = .ok (.iadd, 1) := by decide +kernel
theorem dX3_linesOfColumn_12 : decode cX3_linesOfColumn 12 = .ok (.iconst 1, 1) := by decide +kernel
theorem dX3_linesOfColumn_13 : decode cX3_linesOfColumn 13 = .ok (.isub, 1) := by decide +kernel
theorem dX3_linesOfColumn_14 : decode cX3_linesOfColumn 14 = .ok (.iload_n 2, 1) := by decide +kernel
theorem dX3_linesOfColumn_15 : decode cX3_linesOfColumn 15 = .ok (.isub, 1) := by decide +kernel
theorem dX3_linesOfColumn_16 : decode cX3_linesOfColumn 16 = .ok (.iload_n 1, 1) := by decide +kernel
theorem dX3_linesOfColumn_17 : decode cX3_linesOfColumn 17 = .ok (.idiv, 1) := by decide +kernel
theorem dX3_linesOfColumn_18 : decode cX3_linesOfColumn 18 = .ok (.ireturn, 1) := by decide +kernel
theorem dX3_firstCell_0 : decode cX3_firstCell 0 = .ok (.aload_n 0, 1) := by decide +kernel
theorem dX3_firstCell_1 : decode cX3_firstCell 1 = .ok (.iload_n 1, 1) := by decide +kernel
theorem dX3_firstCell_2 : decode cX3_firstCell 2 = .ok (.iload_n 2, 1) := by decide +kernel
theorem dX3_firstCell_3 : decode cX3_firstCell 3 = .ok (.iconst 0, 1) := by decide +kernel
theorem dX3_firstCell_4 : decode cX3_firstCell 4 = .ok (.invokevirtual 153, 3) := by decide +kernel
theorem dX3_firstCell_7 : decode cX3_firstCell 7 = .ok (.aload_n 0, 1) := by decide +kernel
theorem dX3_firstCell_8 : decode cX3_firstCell 8 = .ok (.iload_n 1, 1) := by decide +kernel
theorem dX3_firstCell_9 : decode cX3_firstCell 9 = .ok (.iload_n 2, 1) := by decide +kernel
theorem dX3_firstCell_10 : decode cX3_firstCell 10 = .ok (.iconst 1, 1) := by decide +kernel
theorem dX3_firstCell_11 : decode cX3_firstCell 11 = .ok (.invokevirtual 153, 3) := by decide +kernel
theorem dX3_firstCell_14 : decode cX3_firstCell 14 = .ok (.aload_n 0, 1) := by decide +kernel
theorem dX3_firstCell_15 : decode cX3_firstCell 15 = .ok (.iload_n 1, 1) := by decide +kernel
theorem dX3_firstCell_16 : decode cX3_firstCell 16 = .ok (.iload_n 2, 1) := by decide +kernel
theorem dX3_firstCell_17 : decode cX3_firstCell 17 = .ok (.iconst 2, 1) := by decide +kernel
theorem dX3_firstCell_18 : decode cX3_firstCell 18 = .ok (.invokevirtual 153, 3) := by decide +kernel
theorem dX3_firstCell_21 : decode cX3_firstCell 21 = .ok (.invokestatic 72, 3) := by decide +kernel
theorem dX3_firstCell_24 : decode cX3_firstCell 24 = .ok (.ireturn, 1) := by decide +kernel
theorem dX3_firstLineCell_0 : decode cX3_firstLineCell 0 = .ok (.aload_n 0, 1) := by decide +kernel
theorem dX3_firstLineCell_1 : decode cX3_firstLineCell 1 = .ok (.iload_n 1, 1) := by decide +kernel
theorem dX3_firstLineCell_2 : decode cX3_firstLineCell 2 = .ok (.iload_n 2, 1) := by decide +kernel
theorem dX3_firstLineCell_3 : decode cX3_firstLineCell 3 = .ok (.invokevirtual 162, 3) := by decide +kernel
theorem dX3_firstLineCell_6 : decode cX3_firstLineCell 6 = .ok (.aload_n 0, 1) := by decide +kernel
theorem dX3_firstLineCell_7 : decode cX3_firstLineCell 7 = .ok (.iload_n 1, 1) := by decide +kernel
theorem dX3_firstLineCell_8 : decode cX3_firstLineCell 8 = .ok (.iload_n 2, 1) := by decide +kernel
theorem dX3_firstLineCell_9 : decode cX3_firstLineCell 9 = .ok (.bipush 8, 2) := by decide +kernel
theorem dX3_firstLineCell_11 : decode cX3_firstLineCell 11 = .ok (.invokevirtual 153, 3) := by decide +kernel
theorem dX3_firstLineCell_14 : decode cX3_firstLineCell 14 = .ok (.iconst 5, 1) := by decide +kernel
theorem dX3_firstLineCell_15 : decode cX3_firstLineCell 15 = .ok (.imul, 1) := by decide +kernel
theorem dX3_firstLineCell_16 : decode cX3_firstLineCell 16 = .ok (.iadd, 1) := by decide +kernel
theorem dX3_firstLineCell_17 : decode cX3_firstLineCell 17 = .ok (.ireturn, 1) := by decide +kernel
theorem dX3_cellOfLine_0 : decode cX3_cellOfLine 0 = .ok (.iconst 0, 1) := by decide +kernel
theorem dX3_cellOfLine_1 : decode cX3_cellOfLine 1 = .ok (.istore_n 3, 1) := by decide +kernel
theorem dX3_cellOfLine_2 : decode cX3_cellOfLine 2 = .ok (.iload_n 3, 1) := by decide +kernel
theorem dX3_cellOfLine_3 : decode cX3_cellOfLine 3 = .ok (.aload_n 0, 1) := by decide +kernel
theorem dX3_cellOfLine_4 : decode cX3_cellOfLine 4 = .ok (.iload_n 1, 1) := by decide +kernel
theorem dX3_cellOfLine_5 : decode cX3_cellOfLine 5 = .ok (.invokevirtual 147, 3) := by decide +kernel
theorem dX3_cellOfLine_8 : decode cX3_cellOfLine 8 = .ok (.if_icmp .ge 51, 3) := by decide +kernel
theorem dX3_cellOfLine_11 : decode cX3_cellOfLine 11 = .ok (.iload_n 2, 1) := by decide +kernel
theorem dX3_cellOfLine_12 : decode cX3_cellOfLine 12 = .ok (.aload_n 0, 1) := by decide +kernel
theorem dX3_cellOfLine_13 : decode cX3_cellOfLine 13 = .ok (.iload_n 1, 1) := by decide +kernel
theorem dX3_cellOfLine_14 : decode cX3_cellOfLine 14 = .ok (.iload_n 3, 1) := by decide +kernel
theorem dX3_cellOfLine_15 : decode cX3_cellOfLine 15 = .ok (.bipush 6, 2) := by decide +kernel
theorem dX3_cellOfLine_17 : decode cX3_cellOfLine 17 = .ok (.invokevirtual 153, 3) := by decide +kernel
theorem dX3_cellOfLine_20 : decode cX3_cellOfLine 20 = .ok (.isub, 1) := by decide +kernel
theorem dX3_cellOfLine_21 : decode cX3_cellOfLine 21 = .ok (.istore 4, 2) := by decide +kernel
theorem dX3_cellOfLine_23 : decode cX3_cellOfLine 23 = .ok (.aload_n 0, 1) := by decide +kernel
theorem dX3_cellOfLine_24 : decode cX3_cellOfLine 24 = .ok (.iload_n 1, 1) := by decide +kernel
theorem dX3_cellOfLine_25 : decode cX3_cellOfLine 25 = .ok (.iload_n 3, 1) := by decide +kernel
theorem dX3_cellOfLine_26 : decode cX3_cellOfLine 26 = .ok (.iconst 5, 1) := by decide +kernel
theorem dX3_cellOfLine_27 : decode cX3_cellOfLine 27 = .ok (.invokevirtual 153, 3) := by decide +kernel
theorem dX3_cellOfLine_30 : decode cX3_cellOfLine 30 = .ok (.istore 5, 2) := by decide +kernel
theorem dX3_cellOfLine_32 : decode cX3_cellOfLine 32 = .ok (.iload 4, 2) := by decide +kernel
theorem dX3_cellOfLine_34 : decode cX3_cellOfLine 34 = .ok (.ifCond .lt 19, 3) := by decide +kernel
theorem dX3_cellOfLine_37 : decode cX3_cellOfLine 37 = .ok (.iload 4, 2) := by decide +kernel
theorem dX3_cellOfLine_39 : decode cX3_cellOfLine 39 = .ok (.iload 5, 2) := by decide +kernel
theorem dX3_cellOfLine_41 : decode cX3_cellOfLine 41 = .ok (.if_icmp .ge 12, 3) := by decide +kernel
theorem dX3_cellOfLine_44 : decode cX3_cellOfLine 44 = .ok (.aload_n 0, 1) := by decide +kernel
theorem dX3_cellOfLine_45 : decode cX3_cellOfLine 45 = .ok (.iload_n 1, 1) := by decide +kernel
theorem dX3_cellOfLine_46 : decode cX3_cellOfLine 46 = .ok (.iload_n 3, 1) := by decide +kernel
theorem dX3_cellOfLine_47 : decode cX3_cellOfLine 47 = .ok (.iload 4, 2) := by decide +kernel
theorem dX3_cellOfLine_49 : decode cX3_cellOfLine 49 = .ok (.invokevirtual 165, 3) := by decide +kernel
theorem dX3_cellOfLine_52 : decode cX3_cellOfLine 52 = .ok (.ireturn, 1) := by decide +kernel
theorem dX3_cellOfLine_53 : decode cX3_cellOfLine 53 = .ok (.iinc 3 1, 3) := by decide +kernel
theorem dX3_cellOfLine_56 : decode cX3_cellOfLine 56 = .ok (.goto (-54), 3) := by decide +kernel
theorem dX3_cellOfLine_59 : decode cX3_cellOfLine 59 = .ok (.iconst (-1), 1) := by decide +kernel
theorem dX3_cellOfLine_60 : decode cX3_cellOfLine 60 = .ok (.ireturn, 1) := by decide +kernel
theorem dX3_cellInPart_0 : decode cX3_cellInPart 0 = .ok (.aload_n 0, 1) := by decide +kernel
theorem dX3_cellInPart_1 : decode cX3_cellInPart 1 = .ok (.iload_n 1, 1) := by decide +kernel
theorem dX3_cellInPart_2 : decode cX3_cellInPart 2 = .ok (.iload_n 2, 1) := by decide +kernel
theorem dX3_cellInPart_3 : decode cX3_cellInPart 3 = .ok (.iconst 3, 1) := by decide +kernel
theorem dX3_cellInPart_4 : decode cX3_cellInPart 4 = .ok (.invokevirtual 153, 3) := by decide +kernel
theorem dX3_cellInPart_7 : decode cX3_cellInPart 7 = .ok (.istore 4, 2) := by decide +kernel
theorem dX3_cellInPart_9 : decode cX3_cellInPart 9 = .ok (.aload_n 0, 1) := by decide +kernel
theorem dX3_cellInPart_10 : decode cX3_cellInPart 10 = .ok (.iload_n 1, 1) := by decide +kernel
theorem dX3_cellInPart_11 : decode cX3_cellInPart 11 = .ok (.iload_n 2, 1) := by decide +kernel
theorem dX3_cellInPart_12 : decode cX3_cellInPart 12 = .ok (.iconst 5, 1) := by decide +kernel
theorem dX3_cellInPart_13 : decode cX3_cellInPart 13 = .ok (.invokevirtual 153, 3) := by decide +kernel
theorem dX3_cellInPart_16 : decode cX3_cellInPart 16 = .ok (.istore 5, 2) := by decide +kernel
theorem dX3_cellInPart_18 : decode cX3_cellInPart 18 = .ok (.iload_n 3, 1) := by decide +kernel
theorem dX3_cellInPart_19 : decode cX3_cellInPart 19 = .ok (.istore 6, 2) := by decide +kernel
theorem dX3_cellInPart_21 : decode cX3_cellInPart 21 = .ok (.iconst 0, 1) := by decide +kernel
theorem dX3_cellInPart_22 : decode cX3_cellInPart 22 = .ok (.istore 7, 2) := by decide +kernel
theorem dX3_cellInPart_24 : decode cX3_cellInPart 24 = .ok (.iload 7, 2) := by decide +kernel
theorem dX3_cellInPart_26 : decode cX3_cellInPart 26 = .ok (.iload 4, 2) := by decide +kernel
theorem dX3_cellInPart_28 : decode cX3_cellInPart 28 = .ok (.if_icmp .ge 49, 3) := by decide +kernel
theorem dX3_cellInPart_31 : decode cX3_cellInPart 31 = .ok (.iload 5, 2) := by decide +kernel
theorem dX3_cellInPart_33 : decode cX3_cellInPart 33 = .ok (.iload 4, 2) := by decide +kernel
theorem dX3_cellInPart_35 : decode cX3_cellInPart 35 = .ok (.iload 7, 2) := by decide +kernel
theorem dX3_cellInPart_37 : decode cX3_cellInPart 37 = .ok (.invokestatic 137, 3) := by decide +kernel
theorem dX3_cellInPart_40 : decode cX3_cellInPart 40 = .ok (.istore 8, 2) := by decide +kernel
theorem dX3_cellInPart_42 : decode cX3_cellInPart 42 = .ok (.iload 6, 2) := by decide +kernel
theorem dX3_cellInPart_44 : decode cX3_cellInPart 44 = .ok (.iload 8, 2) := by decide +kernel
theorem dX3_cellInPart_46 : decode cX3_cellInPart 46 = .ok (.if_icmp .ge 18, 3) := by decide +kernel
theorem dX3_cellInPart_49 : decode cX3_cellInPart 49 = .ok (.aload_n 0, 1) := by decide +kernel
theorem dX3_cellInPart_50 : decode cX3_cellInPart 50 = .ok (.iload_n 1, 1) := by decide +kernel
theorem dX3_cellInPart_51 : decode cX3_cellInPart 51 = .ok (.iload_n 2, 1) := by decide +kernel
theorem dX3_cellInPart_52 : decode cX3_cellInPart 52 = .ok (.invokevirtual 159, 3) := by decide +kernel
theorem dX3_cellInPart_55 : decode cX3_cellInPart 55 = .ok (.iload 6, 2) := by decide +kernel
theorem dX3_cellInPart_57 : decode cX3_cellInPart 57 = .ok (.iconst 5, 1) := by decide +kernel
theorem dX3_cellInPart_58 : decode cX3_cellInPart 58 = .ok (.imul, 1) := by decide +kernel
theorem dX3_cellInPart_59 : decode cX3_cellInPart 59 = .ok (.iadd, 1) := by decide +kernel
theorem dX3_cellInPart_60 : decode cX3_cellInPart 60 = .ok (.iload 7, 2) := by decide +kernel
theorem dX3_cellInPart_62 : decode cX3_cellInPart 62 = .ok (.iadd, 1) := by decide +kernel
theorem dX3_cellInPart_63 : decode cX3_cellInPart 63 = .ok (.ireturn, 1) := by decide +kernel
theorem dX3_cellInPart_64 : decode cX3_cellInPart 64 = .ok (.iload 6, 2) := by decide +kernel
theorem dX3_cellInPart_66 : decode cX3_cellInPart 66 = .ok (.iload 8, 2) := by decide +kernel
theorem dX3_cellInPart_68 : decode cX3_cellInPart 68 = .ok (.isub, 1) := by decide +kernel
theorem dX3_cellInPart_69 : decode cX3_cellInPart 69 = .ok (.istore 6, 2) := by decide +kernel
theorem dX3_cellInPart_71 : decode cX3_cellInPart 71 = .ok (.iinc 7 1, 3) := by decide +kernel
theorem dX3_cellInPart_74 : decode cX3_cellInPart 74 = .ok (.goto (-50), 3) := by decide +kernel
theorem dX3_cellInPart_77 : decode cX3_cellInPart 77 = .ok (.iconst (-1), 1) := by decide +kernel
theorem dX3_cellInPart_78 : decode cX3_cellInPart 78 = .ok (.ireturn, 1) := by decide +kernel
theorem dX3_kindAt_0 : decode cX3_kindAt 0 = .ok (.iload_n 1, 1) := by decide +kernel
theorem dX3_kindAt_1 : decode cX3_kindAt 1 = .ok (.invokestatic 131, 3) := by decide +kernel
theorem dX3_kindAt_4 : decode cX3_kindAt 4 = .ok (.ifCond .eq 12, 3) := by decide +kernel
theorem dX3_kindAt_7 : decode cX3_kindAt 7 = .ok (.aload_n 0, 1) := by decide +kernel
theorem dX3_kindAt_8 : decode cX3_kindAt 8 = .ok (.getfield 18, 3) := by decide +kernel
theorem dX3_kindAt_11 : decode cX3_kindAt 11 = .ok (.iload_n 1, 1) := by decide +kernel
theorem dX3_kindAt_12 : decode cX3_kindAt 12 = .ok (.iaload, 1) := by decide +kernel
theorem dX3_kindAt_13 : decode cX3_kindAt 13 = .ok (.goto 4, 3) := by decide +kernel
theorem dX3_kindAt_16 : decode cX3_kindAt 16 = .ok (.iconst 0, 1) := by decide +kernel
theorem dX3_kindAt_17 : decode cX3_kindAt 17 = .ok (.ireturn, 1) := by decide +kernel
theorem dX3_ownerAt_0 : decode cX3_ownerAt 0 = .ok (.iload_n 1, 1) := by decide +kernel
theorem dX3_ownerAt_1 : decode cX3_ownerAt 1 = .ok (.invokestatic 131, 3) := by decide +kernel
theorem dX3_ownerAt_4 : decode cX3_ownerAt 4 = .ok (.ifCond .eq 12, 3) := by decide +kernel
theorem dX3_ownerAt_7 : decode cX3_ownerAt 7 = .ok (.aload_n 0, 1) := by decide +kernel
theorem dX3_ownerAt_8 : decode cX3_ownerAt 8 = .ok (.getfield 22, 3) := by decide +kernel
theorem dX3_ownerAt_11 : decode cX3_ownerAt 11 = .ok (.iload_n 1, 1) := by decide +kernel
theorem dX3_ownerAt_12 : decode cX3_ownerAt 12 = .ok (.iaload, 1) := by decide +kernel
theorem dX3_ownerAt_13 : decode cX3_ownerAt 13 = .ok (.goto 4, 3) := by decide +kernel
theorem dX3_ownerAt_16 : decode cX3_ownerAt 16 = .ok (.iconst (-1), 1) := by decide +kernel
theorem dX3_ownerAt_17 : decode cX3_ownerAt 17 = .ok (.ireturn, 1) := by decide +kernel
theorem dX3_partNumber_0 : decode cX3_partNumber 0 = .ok (.iload_n 1, 1) := by decide +kernel
theorem dX3_partNumber_1 : decode cX3_partNumber 1 = .ok (.ifCond .lt 28, 3) := by decide +kernel
theorem dX3_partNumber_4 : decode cX3_partNumber 4 = .ok (.iload_n 1, 1) := by decide +kernel
theorem dX3_partNumber_5 : decode cX3_partNumber 5 = .ok (.bipush 12, 2) := by decide +kernel
theorem dX3_partNumber_7 : decode cX3_partNumber 7 = .ok (.if_icmp .ge 22, 3) := by decide +kernel
theorem dX3_partNumber_10 : decode cX3_partNumber 10 = .ok (.iload_n 2, 1) := by decide +kernel
theorem dX3_partNumber_11 : decode cX3_partNumber 11 = .ok (.ifCond .lt 18, 3) := by decide +kernel
theorem dX3_partNumber_14 : decode cX3_partNumber 14 = .ok (.iload_n 2, 1) := by decide +kernel
theorem dX3_partNumber_15 : decode cX3_partNumber 15 = .ok (.iconst 4, 1) := by decide +kernel
theorem dX3_partNumber_16 : decode cX3_partNumber 16 = .ok (.if_icmp .ge 13, 3) := by decide +kernel
theorem dX3_partNumber_19 : decode cX3_partNumber 19 = .ok (.iload_n 3, 1) := by decide +kernel
theorem dX3_partNumber_20 : decode cX3_partNumber 20 = .ok (.ifCond .lt 9, 3) := by decide +kernel
theorem dX3_partNumber_23 : decode cX3_partNumber 23 = .ok (.iload_n 3, 1) := by decide +kernel
theorem dX3_partNumber_24 : decode cX3_partNumber 24 = .ok (.bipush 9, 2) := by decide +kernel
theorem dX3_partNumber_26 : decode cX3_partNumber 26 = .ok (.if_icmp .lt 5, 3) := by decide +kernel
theorem dX3_partNumber_29 : decode cX3_partNumber 29 = .ok (.iconst 0, 1) := by decide +kernel
theorem dX3_partNumber_30 : decode cX3_partNumber 30 = .ok (.ireturn, 1) := by decide +kernel
theorem dX3_partNumber_31 : decode cX3_partNumber 31 = .ok (.aload_n 0, 1) := by decide +kernel
theorem dX3_partNumber_32 : decode cX3_partNumber 32 = .ok (.getfield 34, 3) := by decide +kernel
theorem dX3_partNumber_35 : decode cX3_partNumber 35 = .ok (.iload_n 1, 1) := by decide +kernel
theorem dX3_partNumber_36 : decode cX3_partNumber 36 = .ok (.iconst 4, 1) := by decide +kernel
theorem dX3_partNumber_37 : decode cX3_partNumber 37 = .ok (.imul, 1) := by decide +kernel
theorem dX3_partNumber_38 : decode cX3_partNumber 38 = .ok (.iload_n 2, 1) := by decide +kernel
theorem dX3_partNumber_39 : decode cX3_partNumber 39 = .ok (.iadd, 1) := by decide +kernel
theorem dX3_partNumber_40 : decode cX3_partNumber 40 = .ok (.bipush 9, 2) := by decide +kernel
theorem dX3_partNumber_42 : decode cX3_partNumber 42 = .ok (.imul, 1) := by decide +kernel
theorem dX3_partNumber_43 : decode cX3_partNumber 43 = .ok (.iload_n 3, 1) := by decide +kernel
theorem dX3_partNumber_44 : decode cX3_partNumber 44 = .ok (.iadd, 1) := by decide +kernel
theorem dX3_partNumber_45 : decode cX3_partNumber 45 = .ok (.iaload, 1) := by decide +kernel
theorem dX3_partNumber_46 : decode cX3_partNumber 46 = .ok (.ireturn, 1) := by decide +kernel
theorem dX3_rankOf_0 : decode cX3_rankOf 0 = .ok (.iload_n 1, 1) := by decide +kernel
theorem dX3_rankOf_1 : decode cX3_rankOf 1 = .ok (.invokestatic 86, 3) := by decide +kernel
theorem dX3_rankOf_4 : decode cX3_rankOf 4 = .ok (.ifCond .eq 12, 3) := by decide +kernel
theorem dX3_rankOf_7 : decode cX3_rankOf 7 = .ok (.aload_n 0, 1) := by decide +kernel
theorem dX3_rankOf_8 : decode cX3_rankOf 8 = .ok (.getfield 28, 3) := by decide +kernel
theorem dX3_rankOf_11 : decode cX3_rankOf 11 = .ok (.iload_n 1, 1) := by decide +kernel
theorem dX3_rankOf_12 : decode cX3_rankOf 12 = .ok (.iaload, 1) := by decide +kernel
theorem dX3_rankOf_13 : decode cX3_rankOf 13 = .ok (.goto 4, 3) := by decide +kernel
theorem dX3_rankOf_16 : decode cX3_rankOf 16 = .ok (.iconst (-1), 1) := by decide +kernel
theorem dX3_rankOf_17 : decode cX3_rankOf 17 = .ok (.ireturn, 1) := by decide +kernel
theorem dX3_storyOfRank_0 : decode cX3_storyOfRank 0 = .ok (.iload_n 1, 1) := by decide +kernel
theorem dX3_storyOfRank_1 : decode cX3_storyOfRank 1 = .ok (.invokestatic 86, 3) := by decide +kernel
theorem dX3_storyOfRank_4 : decode cX3_storyOfRank 4 = .ok (.ifCond .eq 12, 3) := by decide +kernel
theorem dX3_storyOfRank_7 : decode cX3_storyOfRank 7 = .ok (.aload_n 0, 1) := by decide +kernel
theorem dX3_storyOfRank_8 : decode cX3_storyOfRank 8 = .ok (.getfield 25, 3) := by decide +kernel
theorem dX3_storyOfRank_11 : decode cX3_storyOfRank 11 = .ok (.iload_n 1, 1) := by decide +kernel
theorem dX3_storyOfRank_12 : decode cX3_storyOfRank 12 = .ok (.iaload, 1) := by decide +kernel
theorem dX3_storyOfRank_13 : decode cX3_storyOfRank 13 = .ok (.goto 4, 3) := by decide +kernel
theorem dX3_storyOfRank_16 : decode cX3_storyOfRank 16 = .ok (.iconst (-1), 1) := by decide +kernel
theorem dX3_storyOfRank_17 : decode cX3_storyOfRank 17 = .ok (.ireturn, 1) := by decide +kernel
theorem dX3_partCountOf_0 : decode cX3_partCountOf 0 = .ok (.iload_n 1, 1) := by decide +kernel
theorem dX3_partCountOf_1 : decode cX3_partCountOf 1 = .ok (.invokestatic 86, 3) := by decide +kernel
theorem dX3_partCountOf_4 : decode cX3_partCountOf 4 = .ok (.ifCond .eq 12, 3) := by decide +kernel
theorem dX3_partCountOf_7 : decode cX3_partCountOf 7 = .ok (.aload_n 0, 1) := by decide +kernel
theorem dX3_partCountOf_8 : decode cX3_partCountOf 8 = .ok (.getfield 31, 3) := by decide +kernel
theorem dX3_partCountOf_11 : decode cX3_partCountOf 11 = .ok (.iload_n 1, 1) := by decide +kernel
theorem dX3_partCountOf_12 : decode cX3_partCountOf 12 = .ok (.iaload, 1) := by decide +kernel
theorem dX3_partCountOf_13 : decode cX3_partCountOf 13 = .ok (.goto 4, 3) := by decide +kernel
theorem dX3_partCountOf_16 : decode cX3_partCountOf 16 = .ok (.iconst 0, 1) := by decide +kernel
theorem dX3_partCountOf_17 : decode cX3_partCountOf 17 = .ok (.ireturn, 1) := by decide +kernel
theorem dX3_isLeftOut_0 : decode cX3_isLeftOut 0 = .ok (.aload_n 0, 1) := by decide +kernel
theorem dX3_isLeftOut_1 : decode cX3_isLeftOut 1 = .ok (.iload_n 1, 1) := by decide +kernel
theorem dX3_isLeftOut_2 : decode cX3_isLeftOut 2 = .ok (.invokevirtual 147, 3) := by decide +kernel
theorem dX3_isLeftOut_5 : decode cX3_isLeftOut 5 = .ok (.ifCond .ne 7, 3) := by decide +kernel
theorem dX3_isLeftOut_8 : decode cX3_isLeftOut 8 = .ok (.iconst 1, 1) := by decide +kernel
theorem dX3_isLeftOut_9 : decode cX3_isLeftOut 9 = .ok (.goto 4, 3) := by decide +kernel
theorem dX3_isLeftOut_12 : decode cX3_isLeftOut 12 = .ok (.iconst 0, 1) := by decide +kernel
theorem dX3_isLeftOut_13 : decode cX3_isLeftOut 13 = .ok (.ireturn, 1) := by decide +kernel
theorem dX3_startPageOf_0 : decode cX3_startPageOf 0 = .ok (.aload_n 0, 1) := by decide +kernel
theorem dX3_startPageOf_1 : decode cX3_startPageOf 1 = .ok (.iload_n 1, 1) := by decide +kernel
theorem dX3_startPageOf_2 : decode cX3_startPageOf 2 = .ok (.invokevirtual 147, 3) := by decide +kernel
theorem dX3_startPageOf_5 : decode cX3_startPageOf 5 = .ok (.ifCond .ne 7, 3) := by decide +kernel
theorem dX3_startPageOf_8 : decode cX3_startPageOf 8 = .ok (.iconst (-1), 1) := by decide +kernel
theorem dX3_startPageOf_9 : decode cX3_startPageOf 9 = .ok (.goto 10, 3) := by decide +kernel
theorem dX3_startPageOf_12 : decode cX3_startPageOf 12 = .ok (.aload_n 0, 1) := by decide +kernel
theorem dX3_startPageOf_13 : decode cX3_startPageOf 13 = .ok (.iload_n 1, 1) := by decide +kernel
theorem dX3_startPageOf_14 : decode cX3_startPageOf 14 = .ok (.iconst 0, 1) := by decide +kernel
theorem dX3_startPageOf_15 : decode cX3_startPageOf 15 = .ok (.iconst 0, 1) := by decide +kernel
theorem dX3_startPageOf_16 : decode cX3_startPageOf 16 = .ok (.invokevirtual 153, 3) := by decide +kernel
theorem dX3_startPageOf_19 : decode cX3_startPageOf 19 = .ok (.ireturn, 1) := by decide +kernel
theorem dX3_startsOnOwnPage_0 : decode cX3_startsOnOwnPage 0 = .ok (.aload_n 0, 1) := by decide +kernel
theorem dX3_startsOnOwnPage_1 : decode cX3_startsOnOwnPage 1 = .ok (.iload_n 1, 1) := by decide +kernel
theorem dX3_startsOnOwnPage_2 : decode cX3_startsOnOwnPage 2 = .ok (.invokevirtual 168, 3) := by decide +kernel
theorem dX3_startsOnOwnPage_5 : decode cX3_startsOnOwnPage 5 = .ok (.aload_n 0, 1) := by decide +kernel
theorem dX3_startsOnOwnPage_6 : decode cX3_startsOnOwnPage 6 = .ok (.getfield 12, 3) := by decide +kernel
theorem dX3_startsOnOwnPage_9 : decode cX3_startsOnOwnPage 9 = .ok (.iload_n 1, 1) := by decide +kernel
theorem dX3_startsOnOwnPage_10 : decode cX3_startsOnOwnPage 10 = .ok (.iconst 0, 1) := by decide +kernel
theorem dX3_startsOnOwnPage_11 : decode cX3_startsOnOwnPage 11 = .ok (.invokevirtual 96, 3) := by decide +kernel
theorem dX3_startsOnOwnPage_14 : decode cX3_startsOnOwnPage 14 = .ok (.if_icmp .ne 7, 3) := by decide +kernel
theorem dX3_startsOnOwnPage_17 : decode cX3_startsOnOwnPage 17 = .ok (.iconst 1, 1) := by decide +kernel
theorem dX3_startsOnOwnPage_18 : decode cX3_startsOnOwnPage 18 = .ok (.goto 4, 3) := by decide +kernel
theorem dX3_startsOnOwnPage_21 : decode cX3_startsOnOwnPage 21 = .ok (.iconst 0, 1) := by decide +kernel
theorem dX3_startsOnOwnPage_22 : decode cX3_startsOnOwnPage 22 = .ok (.ireturn, 1) := by decide +kernel
theorem dX3_isBumped_0 : decode cX3_isBumped 0 = .ok (.aload_n 0, 1) := by decide +kernel
theorem dX3_isBumped_1 : decode cX3_isBumped 1 = .ok (.iload_n 1, 1) := by decide +kernel
theorem dX3_isBumped_2 : decode cX3_isBumped 2 = .ok (.invokevirtual 171, 3) := by decide +kernel
theorem dX3_isBumped_5 : decode cX3_isBumped 5 = .ok (.ifCond .ne 15, 3) := by decide +kernel
theorem dX3_isBumped_8 : decode cX3_isBumped 8 = .ok (.aload_n 0, 1) := by decide +kernel
theorem dX3_isBumped_9 : decode cX3_isBumped 9 = .ok (.iload_n 1, 1) := by decide +kernel
theorem dX3_isBumped_10 : decode cX3_isBumped 10 = .ok (.invokevirtual 174, 3) := by decide +kernel
theorem dX3_isBumped_13 : decode cX3_isBumped 13 = .ok (.ifCond .ne 7, 3) := by decide +kernel
theorem dX3_isBumped_16 : decode cX3_isBumped 16 = .ok (.iconst 1, 1) := by decide +kernel
theorem dX3_isBumped_17 : decode cX3_isBumped 17 = .ok (.goto 4, 3) := by decide +kernel
theorem dX3_isBumped_20 : decode cX3_isBumped 20 = .ok (.iconst 0, 1) := by decide +kernel
theorem dX3_isBumped_21 : decode cX3_isBumped 21 = .ok (.ireturn, 1) := by decide +kernel
theorem dX3_linesOnPages_0 : decode cX3_linesOnPages 0 = .ok (.iload_n 1, 1) := by decide +kernel
theorem dX3_linesOnPages_1 : decode cX3_linesOnPages 1 = .ok (.invokestatic 86, 3) := by decide +kernel
theorem dX3_linesOnPages_4 : decode cX3_linesOnPages 4 = .ok (.ifCond .eq 12, 3) := by decide +kernel
theorem dX3_linesOnPages_7 : decode cX3_linesOnPages 7 = .ok (.aload_n 0, 1) := by decide +kernel
theorem dX3_linesOnPages_8 : decode cX3_linesOnPages 8 = .ok (.getfield 37, 3) := by decide +kernel
theorem dX3_linesOnPages_11 : decode cX3_linesOnPages 11 = .ok (.iload_n 1, 1) := by decide +kernel
theorem dX3_linesOnPages_12 : decode cX3_linesOnPages 12 = .ok (.iaload, 1) := by decide +kernel
theorem dX3_linesOnPages_13 : decode cX3_linesOnPages 13 = .ok (.goto 4, 3) := by decide +kernel
theorem dX3_linesOnPages_16 : decode cX3_linesOnPages 16 = .ok (.iconst 0, 1) := by decide +kernel
theorem dX3_linesOnPages_17 : decode cX3_linesOnPages 17 = .ok (.ireturn, 1) := by decide +kernel
theorem dX3_linesCut_0 : decode cX3_linesCut 0 = .ok (.aload_n 0, 1) := by decide +kernel
theorem dX3_linesCut_1 : decode cX3_linesCut 1 = .ok (.getfield 12, 3) := by decide +kernel
theorem dX3_linesCut_4 : decode cX3_linesCut 4 = .ok (.iload_n 1, 1) := by decide +kernel
theorem dX3_linesCut_5 : decode cX3_linesCut 5 = .ok (.iconst 3, 1) := by decide +kernel
theorem dX3_linesCut_6 : decode cX3_linesCut 6 = .ok (.invokevirtual 96, 3) := by decide +kernel
theorem dX3_linesCut_9 : decode cX3_linesCut 9 = .ok (.aload_n 0, 1) := by decide +kernel
theorem dX3_linesCut_10 : decode cX3_linesCut 10 = .ok (.iload_n 1, 1) := by decide +kernel
theorem dX3_linesCut_11 : decode cX3_linesCut 11 = .ok (.invokevirtual 177, 3) := by decide +kernel
theorem dX3_linesCut_14 : decode cX3_linesCut 14 = .ok (.isub, 1) := by decide +kernel
theorem dX3_linesCut_15 : decode cX3_linesCut 15 = .ok (.ireturn, 1) := by decide +kernel
theorem dX3_linesAtStart_0 : decode cX3_linesAtStart 0 = .ok (.iload_n 1, 1) := by decide +kernel
theorem dX3_linesAtStart_1 : decode cX3_linesAtStart 1 = .ok (.invokestatic 86, 3) := by decide +kernel
theorem dX3_linesAtStart_4 : decode cX3_linesAtStart 4 = .ok (.ifCond .eq 12, 3) := by decide +kernel
theorem dX3_linesAtStart_7 : decode cX3_linesAtStart 7 = .ok (.aload_n 0, 1) := by decide +kernel
theorem dX3_linesAtStart_8 : decode cX3_linesAtStart 8 = .ok (.getfield 40, 3) := by decide +kernel
theorem dX3_linesAtStart_11 : decode cX3_linesAtStart 11 = .ok (.iload_n 1, 1) := by decide +kernel
theorem dX3_linesAtStart_12 : decode cX3_linesAtStart 12 = .ok (.iaload, 1) := by decide +kernel
theorem dX3_linesAtStart_13 : decode cX3_linesAtStart 13 = .ok (.goto 4, 3) := by decide +kernel
theorem dX3_linesAtStart_16 : decode cX3_linesAtStart 16 = .ok (.iconst 0, 1) := by decide +kernel
theorem dX3_linesAtStart_17 : decode cX3_linesAtStart 17 = .ok (.istore_n 2, 1) := by decide +kernel
theorem dX3_linesAtStart_18 : decode cX3_linesAtStart 18 = .ok (.aload_n 0, 1) := by decide +kernel
theorem dX3_linesAtStart_19 : decode cX3_linesAtStart 19 = .ok (.getfield 12, 3) := by decide +kernel
theorem dX3_linesAtStart_22 : decode cX3_linesAtStart 22 = .ok (.iload_n 1, 1) := by decide +kernel
theorem dX3_linesAtStart_23 : decode cX3_linesAtStart 23 = .ok (.iconst 1, 1) := by decide +kernel
theorem dX3_linesAtStart_24 : decode cX3_linesAtStart 24 = .ok (.invokevirtual 96, 3) := by decide +kernel
theorem dX3_linesAtStart_27 : decode cX3_linesAtStart 27 = .ok (.iload_n 2, 1) := by decide +kernel
theorem dX3_linesAtStart_28 : decode cX3_linesAtStart 28 = .ok (.imul, 1) := by decide +kernel
theorem dX3_linesAtStart_29 : decode cX3_linesAtStart 29 = .ok (.ireturn, 1) := by decide +kernel
theorem dX3_leftOutCount_0 : decode cX3_leftOutCount 0 = .ok (.iconst 0, 1) := by decide +kernel
theorem dX3_leftOutCount_1 : decode cX3_leftOutCount 1 = .ok (.istore_n 1, 1) := by decide +kernel
theorem dX3_leftOutCount_2 : decode cX3_leftOutCount 2 = .ok (.iconst 0, 1) := by decide +kernel
theorem dX3_leftOutCount_3 : decode cX3_leftOutCount 3 = .ok (.istore_n 2, 1) := by decide +kernel
theorem dX3_leftOutCount_4 : decode cX3_leftOutCount 4 = .ok (.iload_n 2, 1) := by decide +kernel
theorem dX3_leftOutCount_5 : decode cX3_leftOutCount 5 = .ok (.bipush 12, 2) := by decide +kernel
theorem dX3_leftOutCount_7 : decode cX3_leftOutCount 7 = .ok (.if_icmp .ge 31, 3) := by decide +kernel
theorem dX3_leftOutCount_10 : decode cX3_leftOutCount 10 = .ok (.aload_n 0, 1) := by decide +kernel
theorem dX3_leftOutCount_11 : decode cX3_leftOutCount 11 = .ok (.getfield 12, 3) := by decide +kernel
theorem dX3_leftOutCount_14 : decode cX3_leftOutCount 14 = .ok (.iload_n 2, 1) := by decide +kernel
theorem dX3_leftOutCount_15 : decode cX3_leftOutCount 15 = .ok (.invokevirtual 83, 3) := by decide +kernel
theorem dX3_leftOutCount_18 : decode cX3_leftOutCount 18 = .ok (.ifCond .eq 14, 3) := by decide +kernel
theorem dX3_leftOutCount_21 : decode cX3_leftOutCount 21 = .ok (.aload_n 0, 1) := by decide +kernel
theorem dX3_leftOutCount_22 : decode cX3_leftOutCount 22 = .ok (.iload_n 2, 1) := by decide +kernel
theorem dX3_leftOutCount_23 : decode cX3_leftOutCount 23 = .ok (.invokevirtual 171, 3) := by decide +kernel
theorem dX3_leftOutCount_26 : decode cX3_leftOutCount 26 = .ok (.ifCond .eq 6, 3) := by decide +kernel
theorem dX3_leftOutCount_29 : decode cX3_leftOutCount 29 = .ok (.iinc 1 1, 3) := by decide +kernel
theorem dX3_leftOutCount_32 : decode cX3_leftOutCount 32 = .ok (.iinc 2 1, 3) := by decide +kernel
theorem dX3_leftOutCount_35 : decode cX3_leftOutCount 35 = .ok (.goto (-31), 3) := by decide +kernel
theorem dX3_leftOutCount_38 : decode cX3_leftOutCount 38 = .ok (.iload_n 1, 1) := by decide +kernel
theorem dX3_leftOutCount_39 : decode cX3_leftOutCount 39 = .ok (.ireturn, 1) := by decide +kernel
theorem dX3_bumpedCount_0 : decode cX3_bumpedCount 0 = .ok (.iconst 0, 1) := by decide +kernel
theorem dX3_bumpedCount_1 : decode cX3_bumpedCount 1 = .ok (.istore_n 1, 1) := by decide +kernel
theorem dX3_bumpedCount_2 : decode cX3_bumpedCount 2 = .ok (.iconst 0, 1) := by decide +kernel
theorem dX3_bumpedCount_3 : decode cX3_bumpedCount 3 = .ok (.istore_n 2, 1) := by decide +kernel
theorem dX3_bumpedCount_4 : decode cX3_bumpedCount 4 = .ok (.iload_n 2, 1) := by decide +kernel
theorem dX3_bumpedCount_5 : decode cX3_bumpedCount 5 = .ok (.bipush 12, 2) := by decide +kernel
theorem dX3_bumpedCount_7 : decode cX3_bumpedCount 7 = .ok (.if_icmp .ge 31, 3) := by decide +kernel
theorem dX3_bumpedCount_10 : decode cX3_bumpedCount 10 = .ok (.aload_n 0, 1) := by decide +kernel
theorem dX3_bumpedCount_11 : decode cX3_bumpedCount 11 = .ok (.getfield 12, 3) := by decide +kernel
theorem dX3_bumpedCount_14 : decode cX3_bumpedCount 14 = .ok (.iload_n 2, 1) := by decide +kernel
theorem dX3_bumpedCount_15 : decode cX3_bumpedCount 15 = .ok (.invokevirtual 83, 3) := by decide +kernel
theorem dX3_bumpedCount_18 : decode cX3_bumpedCount 18 = .ok (.ifCond .eq 14, 3) := by decide +kernel
theorem dX3_bumpedCount_21 : decode cX3_bumpedCount 21 = .ok (.aload_n 0, 1) := by decide +kernel
theorem dX3_bumpedCount_22 : decode cX3_bumpedCount 22 = .ok (.iload_n 2, 1) := by decide +kernel
theorem dX3_bumpedCount_23 : decode cX3_bumpedCount 23 = .ok (.invokevirtual 180, 3) := by decide +kernel
theorem dX3_bumpedCount_26 : decode cX3_bumpedCount 26 = .ok (.ifCond .eq 6, 3) := by decide +kernel
theorem dX3_bumpedCount_29 : decode cX3_bumpedCount 29 = .ok (.iinc 1 1, 3) := by decide +kernel
theorem dX3_bumpedCount_32 : decode cX3_bumpedCount 32 = .ok (.iinc 2 1, 3) := by decide +kernel
theorem dX3_bumpedCount_35 : decode cX3_bumpedCount 35 = .ok (.goto (-31), 3) := by decide +kernel
theorem dX3_bumpedCount_38 : decode cX3_bumpedCount 38 = .ok (.iload_n 1, 1) := by decide +kernel
theorem dX3_bumpedCount_39 : decode cX3_bumpedCount 39 = .ok (.ireturn, 1) := by decide +kernel
theorem dX3_jumpCount_0 : decode cX3_jumpCount 0 = .ok (.iconst 0, 1) := by decide +kernel
theorem dX3_jumpCount_1 : decode cX3_jumpCount 1 = .ok (.istore_n 1, 1) := by decide +kernel
theorem dX3_jumpCount_2 : decode cX3_jumpCount 2 = .ok (.iconst 0, 1) := by decide +kernel
theorem dX3_jumpCount_3 : decode cX3_jumpCount 3 = .ok (.istore_n 2, 1) := by decide +kernel
theorem dX3_jumpCount_4 : decode cX3_jumpCount 4 = .ok (.iload_n 2, 1) := by decide +kernel
theorem dX3_jumpCount_5 : decode cX3_jumpCount 5 = .ok (.bipush 12, 2) := by decide +kernel
theorem dX3_jumpCount_7 : decode cX3_jumpCount 7 = .ok (.if_icmp .ge 37, 3) := by decide +kernel
theorem dX3_jumpCount_10 : decode cX3_jumpCount 10 = .ok (.iconst 0, 1) := by decide +kernel
theorem dX3_jumpCount_11 : decode cX3_jumpCount 11 = .ok (.istore_n 3, 1) := by decide +kernel
theorem dX3_jumpCount_12 : decode cX3_jumpCount 12 = .ok (.iload_n 3, 1) := by decide +kernel
theorem dX3_jumpCount_13 : decode cX3_jumpCount 13 = .ok (.aload_n 0, 1) := by decide +kernel
theorem dX3_jumpCount_14 : decode cX3_jumpCount 14 = .ok (.iload_n 2, 1) := by decide +kernel
theorem dX3_jumpCount_15 : decode cX3_jumpCount 15 = .ok (.invokevirtual 147, 3) := by decide +kernel
theorem dX3_jumpCount_18 : decode cX3_jumpCount 18 = .ok (.if_icmp .ge 20, 3) := by decide +kernel
theorem dX3_jumpCount_21 : decode cX3_jumpCount 21 = .ok (.iload_n 1, 1) := by decide +kernel
theorem dX3_jumpCount_22 : decode cX3_jumpCount 22 = .ok (.aload_n 0, 1) := by decide +kernel
theorem dX3_jumpCount_23 : decode cX3_jumpCount 23 = .ok (.iload_n 2, 1) := by decide +kernel
theorem dX3_jumpCount_24 : decode cX3_jumpCount 24 = .ok (.iload_n 3, 1) := by decide +kernel
theorem dX3_jumpCount_25 : decode cX3_jumpCount 25 = .ok (.bipush 7, 2) := by decide +kernel
theorem dX3_jumpCount_27 : decode cX3_jumpCount 27 = .ok (.invokevirtual 153, 3) := by decide +kernel
theorem dX3_jumpCount_30 : decode cX3_jumpCount 30 = .ok (.iadd, 1) := by decide +kernel
theorem dX3_jumpCount_31 : decode cX3_jumpCount 31 = .ok (.istore_n 1, 1) := by decide +kernel
theorem dX3_jumpCount_32 : decode cX3_jumpCount 32 = .ok (.iinc 3 1, 3) := by decide +kernel
theorem dX3_jumpCount_35 : decode cX3_jumpCount 35 = .ok (.goto (-23), 3) := by decide +kernel
theorem dX3_jumpCount_38 : decode cX3_jumpCount 38 = .ok (.iinc 2 1, 3) := by decide +kernel
theorem dX3_jumpCount_41 : decode cX3_jumpCount 41 = .ok (.goto (-37), 3) := by decide +kernel
theorem dX3_jumpCount_44 : decode cX3_jumpCount 44 = .ok (.iload_n 1, 1) := by decide +kernel
theorem dX3_jumpCount_45 : decode cX3_jumpCount 45 = .ok (.ireturn, 1) := by decide +kernel
theorem dX3_allLinesOnPages_0 : decode cX3_allLinesOnPages 0 = .ok (.iconst 0, 1) := by decide +kernel
theorem dX3_allLinesOnPages_1 : decode cX3_allLinesOnPages 1 = .ok (.istore_n 1, 1) := by decide +kernel
theorem dX3_allLinesOnPages_2 : decode cX3_allLinesOnPages 2 = .ok (.iconst 0, 1) := by decide +kernel
theorem dX3_allLinesOnPages_3 : decode cX3_allLinesOnPages 3 = .ok (.istore_n 2, 1) := by decide +kernel
theorem dX3_allLinesOnPages_4 : decode cX3_allLinesOnPages 4 = .ok (.iload_n 2, 1) := by decide +kernel
theorem dX3_allLinesOnPages_5 : decode cX3_allLinesOnPages 5 = .ok (.bipush 12, 2) := by decide +kernel
theorem dX3_allLinesOnPages_7 : decode cX3_allLinesOnPages 7 = .ok (.if_icmp .ge 28, 3) := by decide +kernel
theorem dX3_allLinesOnPages_10 : decode cX3_allLinesOnPages 10 = .ok (.aload_n 0, 1) := by decide +kernel
theorem dX3_allLinesOnPages_11 : decode cX3_allLinesOnPages 11 = .ok (.getfield 12, 3) := by decide +kernel
theorem dX3_allLinesOnPages_14 : decode cX3_allLinesOnPages 14 = .ok (.iload_n 2, 1) := by decide +kernel
theorem dX3_allLinesOnPages_15 : decode cX3_allLinesOnPages 15 = .ok (.invokevirtual 83, 3) := by decide +kernel
theorem dX3_allLinesOnPages_18 : decode cX3_allLinesOnPages 18 = .ok (.ifCond .eq 11, 3) := by decide +kernel
theorem dX3_allLinesOnPages_21 : decode cX3_allLinesOnPages 21 = .ok (.iload_n 1, 1) := by decide +kernel
theorem dX3_allLinesOnPages_22 : decode cX3_allLinesOnPages 22 = .ok (.aload_n 0, 1) := by decide +kernel
theorem dX3_allLinesOnPages_23 : decode cX3_allLinesOnPages 23 = .ok (.iload_n 2, 1) := by decide +kernel
theorem dX3_allLinesOnPages_24 : decode cX3_allLinesOnPages 24 = .ok (.invokevirtual 177, 3) := by decide +kernel
theorem dX3_allLinesOnPages_27 : decode cX3_allLinesOnPages 27 = .ok (.iadd, 1) := by decide +kernel
theorem dX3_allLinesOnPages_28 : decode cX3_allLinesOnPages 28 = .ok (.istore_n 1, 1) := by decide +kernel
theorem dX3_allLinesOnPages_29 : decode cX3_allLinesOnPages 29 = .ok (.iinc 2 1, 3) := by decide +kernel
theorem dX3_allLinesOnPages_32 : decode cX3_allLinesOnPages 32 = .ok (.goto (-28), 3) := by decide +kernel
theorem dX3_allLinesOnPages_35 : decode cX3_allLinesOnPages 35 = .ok (.iload_n 1, 1) := by decide +kernel
theorem dX3_allLinesOnPages_36 : decode cX3_allLinesOnPages 36 = .ok (.ireturn, 1) := by decide +kernel
theorem dX3_allLinesCut_0 : decode cX3_allLinesCut 0 = .ok (.iconst 0, 1) := by decide +kernel
theorem dX3_allLinesCut_1 : decode cX3_allLinesCut 1 = .ok (.istore_n 1, 1) := by decide +kernel
theorem dX3_allLinesCut_2 : decode cX3_allLinesCut 2 = .ok (.iconst 0, 1) := by decide +kernel
theorem dX3_allLinesCut_3 : decode cX3_allLinesCut 3 = .ok (.istore_n 2, 1) := by decide +kernel
theorem dX3_allLinesCut_4 : decode cX3_allLinesCut 4 = .ok (.iload_n 2, 1) := by decide +kernel
theorem dX3_allLinesCut_5 : decode cX3_allLinesCut 5 = .ok (.bipush 12, 2) := by decide +kernel
theorem dX3_allLinesCut_7 : decode cX3_allLinesCut 7 = .ok (.if_icmp .ge 28, 3) := by decide +kernel
theorem dX3_allLinesCut_10 : decode cX3_allLinesCut 10 = .ok (.aload_n 0, 1) := by decide +kernel
theorem dX3_allLinesCut_11 : decode cX3_allLinesCut 11 = .ok (.getfield 12, 3) := by decide +kernel
theorem dX3_allLinesCut_14 : decode cX3_allLinesCut 14 = .ok (.iload_n 2, 1) := by decide +kernel
theorem dX3_allLinesCut_15 : decode cX3_allLinesCut 15 = .ok (.invokevirtual 83, 3) := by decide +kernel
theorem dX3_allLinesCut_18 : decode cX3_allLinesCut 18 = .ok (.ifCond .eq 11, 3) := by decide +kernel
theorem dX3_allLinesCut_21 : decode cX3_allLinesCut 21 = .ok (.iload_n 1, 1) := by decide +kernel
theorem dX3_allLinesCut_22 : decode cX3_allLinesCut 22 = .ok (.aload_n 0, 1) := by decide +kernel
theorem dX3_allLinesCut_23 : decode cX3_allLinesCut 23 = .ok (.iload_n 2, 1) := by decide +kernel
theorem dX3_allLinesCut_24 : decode cX3_allLinesCut 24 = .ok (.invokevirtual 144, 3) := by decide +kernel
theorem dX3_allLinesCut_27 : decode cX3_allLinesCut 27 = .ok (.iadd, 1) := by decide +kernel
theorem dX3_allLinesCut_28 : decode cX3_allLinesCut 28 = .ok (.istore_n 1, 1) := by decide +kernel
theorem dX3_allLinesCut_29 : decode cX3_allLinesCut 29 = .ok (.iinc 2 1, 3) := by decide +kernel
theorem dX3_allLinesCut_32 : decode cX3_allLinesCut 32 = .ok (.goto (-28), 3) := by decide +kernel
theorem dX3_allLinesCut_35 : decode cX3_allLinesCut 35 = .ok (.iload_n 1, 1) := by decide +kernel
theorem dX3_allLinesCut_36 : decode cX3_allLinesCut 36 = .ok (.ireturn, 1) := by decide +kernel
theorem dX3_cellsOfKind_0 : decode cX3_cellsOfKind 0 = .ok (.iconst 0, 1) := by decide +kernel
theorem dX3_cellsOfKind_1 : decode cX3_cellsOfKind 1 = .ok (.istore_n 3, 1) := by decide +kernel
theorem dX3_cellsOfKind_2 : decode cX3_cellsOfKind 2 = .ok (.iload_n 1, 1) := by decide +kernel
theorem dX3_cellsOfKind_3 : decode cX3_cellsOfKind 3 = .ok (.bipush 120, 2) := by decide +kernel
theorem dX3_cellsOfKind_5 : decode cX3_cellsOfKind 5 = .ok (.imul, 1) := by decide +kernel
theorem dX3_cellsOfKind_6 : decode cX3_cellsOfKind 6 = .ok (.istore 4, 2) := by decide +kernel
theorem dX3_cellsOfKind_8 : decode cX3_cellsOfKind 8 = .ok (.iload 4, 2) := by decide +kernel
theorem dX3_cellsOfKind_10 : decode cX3_cellsOfKind 10 = .ok (.iload_n 1, 1) := by decide +kernel
theorem dX3_cellsOfKind_11 : decode cX3_cellsOfKind 11 = .ok (.iconst 1, 1) := by decide +kernel
theorem dX3_cellsOfKind_12 : decode cX3_cellsOfKind 12 = .ok (.iadd, 1) := by decide +kernel
theorem dX3_cellsOfKind_13 : decode cX3_cellsOfKind 13 = .ok (.bipush 120, 2) := by decide +kernel
theorem dX3_cellsOfKind_15 : decode cX3_cellsOfKind 15 = .ok (.imul, 1) := by decide +kernel
theorem dX3_cellsOfKind_16 : decode cX3_cellsOfKind 16 = .ok (.if_icmp .ge 22, 3) := by decide +kernel
theorem dX3_cellsOfKind_19 : decode cX3_cellsOfKind 19 = .ok (.aload_n 0, 1) := by decide +kernel
theorem dX3_cellsOfKind_20 : decode cX3_cellsOfKind 20 = .ok (.iload 4, 2) := by decide +kernel
theorem dX3_cellsOfKind_22 : decode cX3_cellsOfKind 22 = .ok (.invokevirtual 183, 3) := by decide +kernel
theorem dX3_cellsOfKind_25 : decode cX3_cellsOfKind 25 = .ok (.iload_n 2, 1) := by decide +kernel
theorem dX3_cellsOfKind_26 : decode cX3_cellsOfKind 26 = .ok (.if_icmp .ne 6, 3) := by decide +kernel
theorem dX3_cellsOfKind_29 : decode cX3_cellsOfKind 29 = .ok (.iinc 3 1, 3) := by decide +kernel
theorem dX3_cellsOfKind_32 : decode cX3_cellsOfKind 32 = .ok (.iinc 4 1, 3) := by decide +kernel
theorem dX3_cellsOfKind_35 : decode cX3_cellsOfKind 35 = .ok (.goto (-27), 3) := by decide +kernel
theorem dX3_cellsOfKind_38 : decode cX3_cellsOfKind 38 = .ok (.iload_n 3, 1) := by decide +kernel
theorem dX3_cellsOfKind_39 : decode cX3_cellsOfKind 39 = .ok (.ireturn, 1) := by decide +kernel
theorem dX3_usedCells_0 : decode cX3_usedCells 0 = .ok (.iconst 0, 1) := by decide +kernel
theorem dX3_usedCells_1 : decode cX3_usedCells 1 = .ok (.istore_n 3, 1) := by decide +kernel
theorem dX3_usedCells_2 : decode cX3_usedCells 2 = .ok (.iconst 0, 1) := by decide +kernel
theorem dX3_usedCells_3 : decode cX3_usedCells 3 = .ok (.istore 4, 2) := by decide +kernel
theorem dX3_usedCells_5 : decode cX3_usedCells 5 = .ok (.iload 4, 2) := by decide +kernel
theorem dX3_usedCells_7 : decode cX3_usedCells 7 = .ok (.bipush 24, 2) := by decide +kernel
theorem dX3_usedCells_9 : decode cX3_usedCells 9 = .ok (.if_icmp .ge 37, 3) := by decide +kernel
theorem dX3_usedCells_12 : decode cX3_usedCells 12 = .ok (.aload_n 0, 1) := by decide +kernel
theorem dX3_usedCells_13 : decode cX3_usedCells 13 = .ok (.iload_n 1, 1) := by decide +kernel
theorem dX3_usedCells_14 : decode cX3_usedCells 14 = .ok (.iload_n 2, 1) := by decide +kernel
theorem dX3_usedCells_15 : decode cX3_usedCells 15 = .ok (.iload 4, 2) := by decide +kernel
theorem dX3_usedCells_17 : decode cX3_usedCells 17 = .ok (.invokestatic 72, 3) := by decide +kernel
theorem dX3_usedCells_20 : decode cX3_usedCells 20 = .ok (.invokevirtual 183, 3) := by decide +kernel
theorem dX3_usedCells_23 : decode cX3_usedCells 23 = .ok (.istore 5, 2) := by decide +kernel
theorem dX3_usedCells_25 : decode cX3_usedCells 25 = .ok (.iload 5, 2) := by decide +kernel
theorem dX3_usedCells_27 : decode cX3_usedCells 27 = .ok (.ifCond .eq 13, 3) := by decide +kernel
theorem dX3_usedCells_30 : decode cX3_usedCells 30 = .ok (.iload 5, 2) := by decide +kernel
theorem dX3_usedCells_32 : decode cX3_usedCells 32 = .ok (.bipush 8, 2) := by decide +kernel
theorem dX3_usedCells_34 : decode cX3_usedCells 34 = .ok (.if_icmp .eq 6, 3) := by decide +kernel
theorem dX3_usedCells_37 : decode cX3_usedCells 37 = .ok (.iinc 3 1, 3) := by decide +kernel
theorem dX3_usedCells_40 : decode cX3_usedCells 40 = .ok (.iinc 4 1, 3) := by decide +kernel
theorem dX3_usedCells_43 : decode cX3_usedCells 43 = .ok (.goto (-38), 3) := by decide +kernel
theorem dX3_usedCells_46 : decode cX3_usedCells 46 = .ok (.iload_n 3, 1) := by decide +kernel
theorem dX3_usedCells_47 : decode cX3_usedCells 47 = .ok (.ireturn, 1) := by decide +kernel
theorem dX3_cellsNotFree_0 : decode cX3_cellsNotFree 0 = .ok (.iconst 0, 1) := by decide +kernel
theorem dX3_cellsNotFree_1 : decode cX3_cellsNotFree 1 = .ok (.istore_n 1, 1) := by decide +kernel
theorem dX3_cellsNotFree_2 : decode cX3_cellsNotFree 2 = .ok (.iconst 0, 1) := by decide +kernel
theorem dX3_cellsNotFree_3 : decode cX3_cellsNotFree 3 = .ok (.istore_n 2, 1) := by decide +kernel
theorem dX3_cellsNotFree_4 : decode cX3_cellsNotFree 4 = .ok (.iload_n 2, 1) := by decide +kernel
theorem dX3_cellsNotFree_5 : decode cX3_cellsNotFree 5 = .ok (.iconst 4, 1) := by decide +kernel
theorem dX3_cellsNotFree_6 : decode cX3_cellsNotFree 6 = .ok (.if_icmp .ge 21, 3) := by decide +kernel
theorem dX3_cellsNotFree_9 : decode cX3_cellsNotFree 9 = .ok (.iload_n 1, 1) := by decide +kernel
theorem dX3_cellsNotFree_10 : decode cX3_cellsNotFree 10 = .ok (.bipush 120, 2) := by decide +kernel
theorem dX3_cellsNotFree_12 : decode cX3_cellsNotFree 12 = .ok (.aload_n 0, 1) := by decide +kernel
theorem dX3_cellsNotFree_13 : decode cX3_cellsNotFree 13 = .ok (.iload_n 2, 1) := by decide +kernel
theorem dX3_cellsNotFree_14 : decode cX3_cellsNotFree 14 = .ok (.iconst 0, 1) := by decide +kernel
theorem dX3_cellsNotFree_15 : decode cX3_cellsNotFree 15 = .ok (.invokevirtual 186, 3) := by decide +kernel
theorem dX3_cellsNotFree_18 : decode cX3_cellsNotFree 18 = .ok (.isub, 1) := by decide +kernel
theorem dX3_cellsNotFree_19 : decode cX3_cellsNotFree 19 = .ok (.iadd, 1) := by decide +kernel
theorem dX3_cellsNotFree_20 : decode cX3_cellsNotFree 20 = .ok (.istore_n 1, 1) := by decide +kernel
theorem dX3_cellsNotFree_21 : decode cX3_cellsNotFree 21 = .ok (.iinc 2 1, 3) := by decide +kernel
theorem dX3_cellsNotFree_24 : decode cX3_cellsNotFree 24 = .ok (.goto (-20), 3) := by decide +kernel
theorem dX3_cellsNotFree_27 : decode cX3_cellsNotFree 27 = .ok (.iload_n 1, 1) := by decide +kernel
theorem dX3_cellsNotFree_28 : decode cX3_cellsNotFree 28 = .ok (.ireturn, 1) := by decide +kernel
theorem dX3_cellsOfParts_0 : decode cX3_cellsOfParts 0 = .ok (.iconst 0, 1) := by decide +kernel
theorem dX3_cellsOfParts_1 : decode cX3_cellsOfParts 1 = .ok (.istore_n 1, 1) := by decide +kernel
theorem dX3_cellsOfParts_2 : decode cX3_cellsOfParts 2 = .ok (.iconst 0, 1) := by decide +kernel
theorem dX3_cellsOfParts_3 : decode cX3_cellsOfParts 3 = .ok (.istore_n 2, 1) := by decide +kernel
theorem dX3_cellsOfParts_4 : decode cX3_cellsOfParts 4 = .ok (.iload_n 2, 1) := by decide +kernel
theorem dX3_cellsOfParts_5 : decode cX3_cellsOfParts 5 = .ok (.bipush 12, 2) := by decide +kernel
theorem dX3_cellsOfParts_7 : decode cX3_cellsOfParts 7 = .ok (.if_icmp .ge 44, 3) := by decide +kernel
theorem dX3_cellsOfParts_10 : decode cX3_cellsOfParts 10 = .ok (.iconst 0, 1) := by decide +kernel
theorem dX3_cellsOfParts_11 : decode cX3_cellsOfParts 11 = .ok (.istore_n 3, 1) := by decide +kernel
theorem dX3_cellsOfParts_12 : decode cX3_cellsOfParts 12 = .ok (.iload_n 3, 1) := by decide +kernel
theorem dX3_cellsOfParts_13 : decode cX3_cellsOfParts 13 = .ok (.aload_n 0, 1) := by decide +kernel
theorem dX3_cellsOfParts_14 : decode cX3_cellsOfParts 14 = .ok (.iload_n 2, 1) := by decide +kernel
theorem dX3_cellsOfParts_15 : decode cX3_cellsOfParts 15 = .ok (.invokevirtual 147, 3) := by decide +kernel
theorem dX3_cellsOfParts_18 : decode cX3_cellsOfParts 18 = .ok (.if_icmp .ge 27, 3) := by decide +kernel
theorem dX3_cellsOfParts_21 : decode cX3_cellsOfParts 21 = .ok (.iload_n 1, 1) := by decide +kernel
theorem dX3_cellsOfParts_22 : decode cX3_cellsOfParts 22 = .ok (.aload_n 0, 1) := by decide +kernel
theorem dX3_cellsOfParts_23 : decode cX3_cellsOfParts 23 = .ok (.iload_n 2, 1) := by decide +kernel
theorem dX3_cellsOfParts_24 : decode cX3_cellsOfParts 24 = .ok (.iload_n 3, 1) := by decide +kernel
theorem dX3_cellsOfParts_25 : decode cX3_cellsOfParts 25 = .ok (.iconst 3, 1) := by decide +kernel
theorem dX3_cellsOfParts_26 : decode cX3_cellsOfParts 26 = .ok (.invokevirtual 153, 3) := by decide +kernel
theorem dX3_cellsOfParts_29 : decode cX3_cellsOfParts 29 = .ok (.aload_n 0, 1) := by decide +kernel
theorem dX3_cellsOfParts_30 : decode cX3_cellsOfParts 30 = .ok (.iload_n 2, 1) := by decide +kernel
theorem dX3_cellsOfParts_31 : decode cX3_cellsOfParts 31 = .ok (.iload_n 3, 1) := by decide +kernel
theorem dX3_cellsOfParts_32 : decode cX3_cellsOfParts 32 = .ok (.iconst 4, 1) := by decide +kernel
theorem dX3_cellsOfParts_33 : decode cX3_cellsOfParts 33 = .ok (.invokevirtual 153, 3) := by decide +kernel
theorem dX3_cellsOfParts_36 : decode cX3_cellsOfParts 36 = .ok (.imul, 1) := by decide +kernel
theorem dX3_cellsOfParts_37 : decode cX3_cellsOfParts 37 = .ok (.iadd, 1) := by decide +kernel
theorem dX3_cellsOfParts_38 : decode cX3_cellsOfParts 38 = .ok (.istore_n 1, 1) := by decide +kernel
theorem dX3_cellsOfParts_39 : decode cX3_cellsOfParts 39 = .ok (.iinc 3 1, 3) := by decide +kernel
theorem dX3_cellsOfParts_42 : decode cX3_cellsOfParts 42 = .ok (.goto (-30), 3) := by decide +kernel
theorem dX3_cellsOfParts_45 : decode cX3_cellsOfParts 45 = .ok (.iinc 2 1, 3) := by decide +kernel
theorem dX3_cellsOfParts_48 : decode cX3_cellsOfParts 48 = .ok (.goto (-44), 3) := by decide +kernel
theorem dX3_cellsOfParts_51 : decode cX3_cellsOfParts 51 = .ok (.iload_n 1, 1) := by decide +kernel
theorem dX3_cellsOfParts_52 : decode cX3_cellsOfParts 52 = .ok (.ireturn, 1) := by decide +kernel
theorem dX3_hasSoundLines_0 : decode cX3_hasSoundLines 0 = .ok (.iconst 0, 1) := by decide +kernel
theorem dX3_hasSoundLines_1 : decode cX3_hasSoundLines 1 = .ok (.istore_n 2, 1) := by decide +kernel
theorem dX3_hasSoundLines_2 : decode cX3_hasSoundLines 2 = .ok (.iconst 0, 1) := by decide +kernel
theorem dX3_hasSoundLines_3 : decode cX3_hasSoundLines 3 = .ok (.istore_n 3, 1) := by decide +kernel
theorem dX3_hasSoundLines_4 : decode cX3_hasSoundLines 4 = .ok (.iload_n 3, 1) := by decide +kernel
theorem dX3_hasSoundLines_5 : decode cX3_hasSoundLines 5 = .ok (.aload_n 0, 1) := by decide +kernel
theorem dX3_hasSoundLines_6 : decode cX3_hasSoundLines 6 = .ok (.iload_n 1, 1) := by decide +kernel
theorem dX3_hasSoundLines_7 : decode cX3_hasSoundLines 7 = .ok (.invokevirtual 147, 3) := by decide +kernel
theorem dX3_hasSoundLines_10 : decode cX3_hasSoundLines 10 = .ok (.if_icmp .ge 19, 3) := by decide +kernel
theorem dX3_hasSoundLines_13 : decode cX3_hasSoundLines 13 = .ok (.iload_n 2, 1) := by decide +kernel
theorem dX3_hasSoundLines_14 : decode cX3_hasSoundLines 14 = .ok (.aload_n 0, 1) := by decide +kernel
theorem dX3_hasSoundLines_15 : decode cX3_hasSoundLines 15 = .ok (.iload_n 1, 1) := by decide +kernel
theorem dX3_hasSoundLines_16 : decode cX3_hasSoundLines 16 = .ok (.iload_n 3, 1) := by decide +kernel
theorem dX3_hasSoundLines_17 : decode cX3_hasSoundLines 17 = .ok (.iconst 5, 1) := by decide +kernel
theorem dX3_hasSoundLines_18 : decode cX3_hasSoundLines 18 = .ok (.invokevirtual 153, 3) := by decide +kernel
theorem dX3_hasSoundLines_21 : decode cX3_hasSoundLines 21 = .ok (.iadd, 1) := by decide +kernel
theorem dX3_hasSoundLines_22 : decode cX3_hasSoundLines 22 = .ok (.istore_n 2, 1) := by decide +kernel
theorem dX3_hasSoundLines_23 : decode cX3_hasSoundLines 23 = .ok (.iinc 3 1, 3) := by decide +kernel
theorem dX3_hasSoundLines_26 : decode cX3_hasSoundLines 26 = .ok (.goto (-22), 3) := by decide +kernel
theorem dX3_hasSoundLines_29 : decode cX3_hasSoundLines 29 = .ok (.iload_n 2, 1) := by decide +kernel
theorem dX3_hasSoundLines_30 : decode cX3_hasSoundLines 30 = .ok (.aload_n 0, 1) := by decide +kernel
theorem dX3_hasSoundLines_31 : decode cX3_hasSoundLines 31 = .ok (.getfield 12, 3) := by decide +kernel
theorem dX3_hasSoundLines_34 : decode cX3_hasSoundLines 34 = .ok (.iload_n 1, 1) := by decide +kernel
theorem dX3_hasSoundLines_35 : decode cX3_hasSoundLines 35 = .ok (.iconst 3, 1) := by decide +kernel
theorem dX3_hasSoundLines_36 : decode cX3_hasSoundLines 36 = .ok (.invokevirtual 96, 3) := by decide +kernel
theorem dX3_hasSoundLines_39 : decode cX3_hasSoundLines 39 = .ok (.aload_n 0, 1) := by decide +kernel
theorem dX3_hasSoundLines_40 : decode cX3_hasSoundLines 40 = .ok (.iload_n 1, 1) := by decide +kernel
theorem dX3_hasSoundLines_41 : decode cX3_hasSoundLines 41 = .ok (.invokevirtual 144, 3) := by decide +kernel
theorem dX3_hasSoundLines_44 : decode cX3_hasSoundLines 44 = .ok (.isub, 1) := by decide +kernel
theorem dX3_hasSoundLines_45 : decode cX3_hasSoundLines 45 = .ok (.if_icmp .ne 7, 3) := by decide +kernel
theorem dX3_hasSoundLines_48 : decode cX3_hasSoundLines 48 = .ok (.iconst 1, 1) := by decide +kernel
theorem dX3_hasSoundLines_49 : decode cX3_hasSoundLines 49 = .ok (.goto 4, 3) := by decide +kernel
theorem dX3_hasSoundLines_52 : decode cX3_hasSoundLines 52 = .ok (.iconst 0, 1) := by decide +kernel
theorem dX3_hasSoundLines_53 : decode cX3_hasSoundLines 53 = .ok (.ireturn, 1) := by decide +kernel
theorem dX4_takes_0 : decode cX4_takes 0 = .ok (.iload_n 1, 1) := by decide +kernel
theorem dX4_takes_1 : decode cX4_takes 1 = .ok (.iload_n 2, 1) := by decide +kernel
theorem dX4_takes_2 : decode cX4_takes 2 = .ok (.ifCond .eq 7, 3) := by decide +kernel
theorem dX4_takes_5 : decode cX4_takes 5 = .ok (.iconst 1, 1) := by decide +kernel
theorem dX4_takes_6 : decode cX4_takes 6 = .ok (.goto 4, 3) := by decide +kernel
theorem dX4_takes_9 : decode cX4_takes 9 = .ok (.iconst 0, 1) := by decide +kernel
theorem dX4_takes_10 : decode cX4_takes 10 = .ok (.if_icmp .eq 7, 3) := by decide +kernel
theorem dX4_takes_13 : decode cX4_takes 13 = .ok (.iconst 1, 1) := by decide +kernel
theorem dX4_takes_14 : decode cX4_takes 14 = .ok (.goto 4, 3) := by decide +kernel
theorem dX4_takes_17 : decode cX4_takes 17 = .ok (.iconst 0, 1) := by decide +kernel
theorem dX4_takes_18 : decode cX4_takes 18 = .ok (.ireturn, 1) := by decide +kernel
theorem dX4_isEmptyAt_0 : decode cX4_isEmptyAt 0 = .ok (.aload_n 0, 1) := by decide +kernel
theorem dX4_isEmptyAt_1 : decode cX4_isEmptyAt 1 = .ok (.iload_n 1, 1) := by decide +kernel
theorem dX4_isEmptyAt_2 : decode cX4_isEmptyAt 2 = .ok (.invokevirtual 18, 3) := by decide +kernel
theorem dX4_isEmptyAt_5 : decode cX4_isEmptyAt 5 = .ok (.ifCond .ne 7, 3) := by decide +kernel
theorem dX4_isEmptyAt_8 : decode cX4_isEmptyAt 8 = .ok (.iconst 1, 1) := by decide +kernel
theorem dX4_isEmptyAt_9 : decode cX4_isEmptyAt 9 = .ok (.goto 4, 3) := by decide +kernel
theorem dX4_isEmptyAt_12 : decode cX4_isEmptyAt 12 = .ok (.iconst 0, 1) := by decide +kernel
theorem dX4_isEmptyAt_13 : decode cX4_isEmptyAt 13 = .ok (.ireturn, 1) := by decide +kernel
theorem dX4_isStoryAt_0 : decode cX4_isStoryAt 0 = .ok (.aload_n 0, 1) := by decide +kernel
theorem dX4_isStoryAt_1 : decode cX4_isStoryAt 1 = .ok (.iload_n 1, 1) := by decide +kernel
theorem dX4_isStoryAt_2 : decode cX4_isStoryAt 2 = .ok (.invokevirtual 18, 3) := by decide +kernel
theorem dX4_isStoryAt_5 : decode cX4_isStoryAt 5 = .ok (.iconst 1, 1) := by decide +kernel
theorem dX4_isStoryAt_6 : decode cX4_isStoryAt 6 = .ok (.if_icmp .ne 7, 3) := by decide +kernel
theorem dX4_isStoryAt_9 : decode cX4_isStoryAt 9 = .ok (.iconst 1, 1) := by decide +kernel
theorem dX4_isStoryAt_10 : decode cX4_isStoryAt 10 = .ok (.goto 4, 3) := by decide +kernel
theorem dX4_isStoryAt_13 : decode cX4_isStoryAt 13 = .ok (.iconst 0, 1) := by decide +kernel
theorem dX4_isStoryAt_14 : decode cX4_isStoryAt 14 = .ok (.ireturn, 1) := by decide +kernel
theorem dX4_heldAt_0 : decode cX4_heldAt 0 = .ok (.iload_n 1, 1) := by decide +kernel
theorem dX4_heldAt_1 : decode cX4_heldAt 1 = .ok (.invokestatic 22, 3) := by decide +kernel
theorem dX4_heldAt_4 : decode cX4_heldAt 4 = .ok (.ifCond .eq 12, 3) := by decide +kernel
theorem dX4_heldAt_7 : decode cX4_heldAt 7 = .ok (.aload_n 0, 1) := by decide +kernel
theorem dX4_heldAt_8 : decode cX4_heldAt 8 = .ok (.getfield 9, 3) := by decide +kernel
theorem dX4_heldAt_11 : decode cX4_heldAt 11 = .ok (.iload_n 1, 1) := by decide +kernel
theorem dX4_heldAt_12 : decode cX4_heldAt 12 = .ok (.iaload, 1) := by decide +kernel
theorem dX4_heldAt_13 : decode cX4_heldAt 13 = .ok (.goto 4, 3) := by decide +kernel
theorem dX4_heldAt_16 : decode cX4_heldAt 16 = .ok (.iconst 0, 1) := by decide +kernel
theorem dX4_heldAt_17 : decode cX4_heldAt 17 = .ok (.ireturn, 1) := by decide +kernel
theorem dX4_isSpot_0 : decode cX4_isSpot 0 = .ok (.iload_n 0, 1) := by decide +kernel
theorem dX4_isSpot_1 : decode cX4_isSpot 1 = .ok (.ifCond .lt 13, 3) := by decide +kernel
theorem dX4_isSpot_4 : decode cX4_isSpot 4 = .ok (.iload_n 0, 1) := by decide +kernel
theorem dX4_isSpot_5 : decode cX4_isSpot 5 = .ok (.bipush 12, 2) := by decide +kernel
theorem dX4_isSpot_7 : decode cX4_isSpot 7 = .ok (.if_icmp .ge 7, 3) := by decide +kernel
theorem dX4_isSpot_10 : decode cX4_isSpot 10 = .ok (.iconst 1, 1) := by decide +kernel
theorem dX4_isSpot_11 : decode cX4_isSpot 11 = .ok (.goto 4, 3) := by decide +kernel
theorem dX4_isSpot_14 : decode cX4_isSpot 14 = .ok (.iconst 0, 1) := by decide +kernel
theorem dX4_isSpot_15 : decode cX4_isSpot 15 = .ok (.ireturn, 1) := by decide +kernel
theorem dX4_filledPlaces_0 : decode cX4_filledPlaces 0 = .ok (.iconst 0, 1) := by decide +kernel
theorem dX4_filledPlaces_1 : decode cX4_filledPlaces 1 = .ok (.istore_n 2, 1) := by decide +kernel
theorem dX4_filledPlaces_2 : decode cX4_filledPlaces 2 = .ok (.iconst 0, 1) := by decide +kernel
theorem dX4_filledPlaces_3 : decode cX4_filledPlaces 3 = .ok (.istore_n 3, 1) := by decide +kernel
theorem dX4_filledPlaces_4 : decode cX4_filledPlaces 4 = .ok (.iload_n 3, 1) := by decide +kernel
theorem dX4_filledPlaces_5 : decode cX4_filledPlaces 5 = .ok (.iconst 4, 1) := by decide +kernel
theorem dX4_filledPlaces_6 : decode cX4_filledPlaces 6 = .ok (.if_icmp .ge 24, 3) := by decide +kernel
theorem dX4_filledPlaces_9 : decode cX4_filledPlaces 9 = .ok (.aload_n 0, 1) := by decide +kernel
theorem dX4_filledPlaces_10 : decode cX4_filledPlaces 10 = .ok (.iload_n 1, 1) := by decide +kernel
theorem dX4_filledPlaces_11 : decode cX4_filledPlaces 11 = .ok (.iconst 4, 1) := by decide +kernel
theorem dX4_filledPlaces_12 : decode cX4_filledPlaces 12 = .ok (.imul, 1) := by decide +kernel
theorem dX4_filledPlaces_13 : decode cX4_filledPlaces 13 = .ok (.iload_n 3, 1) := by decide +kernel
theorem dX4_filledPlaces_14 : decode cX4_filledPlaces 14 = .ok (.iadd, 1) := by decide +kernel
theorem dX4_filledPlaces_15 : decode cX4_filledPlaces 15 = .ok (.invokevirtual 26, 3) := by decide +kernel
theorem dX4_filledPlaces_18 : decode cX4_filledPlaces 18 = .ok (.ifCond .ne 6, 3) := by decide +kernel
theorem dX4_filledPlaces_21 : decode cX4_filledPlaces 21 = .ok (.iinc 2 1, 3) := by decide +kernel
theorem dX4_filledPlaces_24 : decode cX4_filledPlaces 24 = .ok (.iinc 3 1, 3) := by decide +kernel
theorem dX4_filledPlaces_27 : decode cX4_filledPlaces 27 = .ok (.goto (-23), 3) := by decide +kernel
theorem dX4_filledPlaces_30 : decode cX4_filledPlaces 30 = .ok (.iload_n 2, 1) := by decide +kernel
theorem dX4_filledPlaces_31 : decode cX4_filledPlaces 31 = .ok (.ireturn, 1) := by decide +kernel
theorem dX4_keepStory_0 : decode cX4_keepStory 0 = .ok (.iload_n 1, 1) := by decide +kernel
theorem dX4_keepStory_1 : decode cX4_keepStory 1 = .ok (.invokestatic 22, 3) := by decide +kernel
theorem dX4_keepStory_4 : decode cX4_keepStory 4 = .ok (.ifCond .ne 4, 3) := by decide +kernel
theorem dX4_keepStory_7 : decode cX4_keepStory 7 = .ok (.return_, 1) := by decide +kernel
theorem dX4_keepStory_8 : decode cX4_keepStory 8 = .ok (.aload_n 0, 1) := by decide +kernel
theorem dX4_keepStory_9 : decode cX4_keepStory 9 = .ok (.getfield 9, 3) := by decide +kernel
theorem dX4_keepStory_12 : decode cX4_keepStory 12 = .ok (.iload_n 1, 1) := by decide +kernel
theorem dX4_keepStory_13 : decode cX4_keepStory 13 = .ok (.iconst 1, 1) := by decide +kernel
theorem dX4_keepStory_14 : decode cX4_keepStory 14 = .ok (.iastore, 1) := by decide +kernel
theorem dX4_keepStory_15 : decode cX4_keepStory 15 = .ok (.iconst 0, 1) := by decide +kernel
theorem dX4_keepStory_16 : decode cX4_keepStory 16 = .ok (.istore 4, 2) := by decide +kernel
theorem dX4_keepStory_18 : decode cX4_keepStory 18 = .ok (.iload 4, 2) := by decide +kernel
theorem dX4_keepStory_20 : decode cX4_keepStory 20 = .ok (.bipush 8, 2) := by decide +kernel
theorem dX4_keepStory_22 : decode cX4_keepStory 22 = .ok (.if_icmp .ge 28, 3) := by decide +kernel
theorem dX4_keepStory_25 : decode cX4_keepStory 25 = .ok (.aload_n 0, 1) := by decide +kernel
theorem dX4_keepStory_26 : decode cX4_keepStory 26 = .ok (.getfield 15, 3) := by decide +kernel
theorem dX4_keepStory_29 : decode cX4_keepStory 29 = .ok (.iload_n 1, 1) := by decide +kernel
theorem dX4_keepStory_30 : decode cX4_keepStory 30 = .ok (.bipush 8, 2) := by decide +kernel
theorem dX4_keepStory_32 : decode cX4_keepStory 32 = .ok (.imul, 1) := by decide +kernel
theorem dX4_keepStory_33 : decode cX4_keepStory 33 = .ok (.iload 4, 2) := by decide +kernel
theorem dX4_keepStory_35 : decode cX4_keepStory 35 = .ok (.iadd, 1) := by decide +kernel
theorem dX4_keepStory_36 : decode cX4_keepStory 36 = .ok (.aload_n 2, 1) := by decide +kernel
theorem dX4_keepStory_37 : decode cX4_keepStory 37 = .ok (.iload_n 3, 1) := by decide +kernel
theorem dX4_keepStory_38 : decode cX4_keepStory 38 = .ok (.iload 4, 2) := by decide +kernel
theorem dX4_keepStory_40 : decode cX4_keepStory 40 = .ok (.invokevirtual 29, 3) := by decide +kernel
theorem dX4_keepStory_43 : decode cX4_keepStory 43 = .ok (.iastore, 1) := by decide +kernel
theorem dX4_keepStory_44 : decode cX4_keepStory 44 = .ok (.iinc 4 1, 3) := by decide +kernel
theorem dX4_keepStory_47 : decode cX4_keepStory 47 = .ok (.goto (-29), 3) := by decide +kernel
theorem dX4_keepStory_50 : decode cX4_keepStory 50 = .ok (.return_, 1) := by decide +kernel
theorem dX4_keepAdvertisement_0 : decode cX4_keepAdvertisement 0 = .ok (.iload_n 1, 1) := by decide +kernel
theorem dX4_keepAdvertisement_1 : decode cX4_keepAdvertisement 1 = .ok (.invokestatic 22, 3) := by decide +kernel
theorem dX4_keepAdvertisement_4 : decode cX4_keepAdvertisement 4 = .ok (.ifCond .ne 4, 3) := by decide +kernel
theorem dX4_keepAdvertisement_7 : decode cX4_keepAdvertisement 7 = .ok (.return_, 1) := by decide +kernel
theorem dX4_keepAdvertisement_8 : decode cX4_keepAdvertisement 8 = .ok (.aload_n 0, 1) := by decide +kernel
theorem dX4_keepAdvertisement_9 : decode cX4_keepAdvertisement 9 = .ok (.getfield 9, 3) := by decide +kernel
theorem dX4_keepAdvertisement_12 : decode cX4_keepAdvertisement 12 = .ok (.iload_n 1, 1) := by decide +kernel
theorem dX4_keepAdvertisement_13 : decode cX4_keepAdvertisement 13 = .ok (.iconst 2, 1) := by decide +kernel
theorem dX4_keepAdvertisement_14 : decode cX4_keepAdvertisement 14 = .ok (.iastore, 1) := by decide +kernel
theorem dX4_keepAdvertisement_15 : decode cX4_keepAdvertisement 15 = .ok (.iconst 0, 1) := by decide +kernel
theorem dX4_keepAdvertisement_16 : decode cX4_keepAdvertisement 16 = .ok (.istore 4, 2) := by decide +kernel
theorem dX4_keepAdvertisement_18 : decode cX4_keepAdvertisement 18 = .ok (.iload 4, 2) := by decide +kernel
theorem dX4_keepAdvertisement_20 : decode cX4_keepAdvertisement 20 = .ok (.bipush 6, 2) := by decide +kernel
theorem dX4_keepAdvertisement_22 : decode cX4_keepAdvertisement 22 = .ok (.if_icmp .ge 28, 3) := by decide +kernel
theorem dX4_keepAdvertisement_25 : decode cX4_keepAdvertisement 25 = .ok (.aload_n 0, 1) := by decide +kernel
theorem dX4_keepAdvertisement_26 : decode cX4_keepAdvertisement 26 = .ok (.getfield 15, 3) := by decide +kernel
theorem dX4_keepAdvertisement_29 : decode cX4_keepAdvertisement 29 = .ok (.iload_n 1, 1) := by decide +kernel
theorem dX4_keepAdvertisement_30 : decode cX4_keepAdvertisement 30 = .ok (.bipush 8, 2) := by decide +kernel
theorem dX4_keepAdvertisement_32 : decode cX4_keepAdvertisement 32 = .ok (.imul, 1) := by decide +kernel
theorem dX4_keepAdvertisement_33 : decode cX4_keepAdvertisement 33 = .ok (.iload 4, 2) := by decide +kernel
theorem dX4_keepAdvertisement_35 : decode cX4_keepAdvertisement 35 = .ok (.iadd, 1) := by decide +kernel
theorem dX4_keepAdvertisement_36 : decode cX4_keepAdvertisement 36 = .ok (.aload_n 2, 1) := by decide +kernel
theorem dX4_keepAdvertisement_37 : decode cX4_keepAdvertisement 37 = .ok (.iload_n 3, 1) := by decide +kernel
theorem dX4_keepAdvertisement_38 : decode cX4_keepAdvertisement 38 = .ok (.iload 4, 2) := by decide +kernel
theorem dX4_keepAdvertisement_40 : decode cX4_keepAdvertisement 40 = .ok (.invokevirtual 35, 3) := by decide +kernel
theorem dX4_keepAdvertisement_43 : decode cX4_keepAdvertisement 43 = .ok (.iastore, 1) := by decide +kernel
theorem dX4_keepAdvertisement_44 : decode cX4_keepAdvertisement 44 = .ok (.iinc 4 1, 3) := by decide +kernel
theorem dX4_keepAdvertisement_47 : decode cX4_keepAdvertisement 47 = .ok (.goto (-29), 3) := by decide +kernel
theorem dX4_keepAdvertisement_50 : decode cX4_keepAdvertisement 50 = .ok (.return_, 1) := by decide +kernel
theorem dX4_kept_0 : decode cX4_kept 0 = .ok (.iload_n 1, 1) := by decide +kernel
theorem dX4_kept_1 : decode cX4_kept 1 = .ok (.invokestatic 22, 3) := by decide +kernel
theorem dX4_kept_4 : decode cX4_kept 4 = .ok (.ifCond .eq 13, 3) := by decide +kernel
theorem dX4_kept_7 : decode cX4_kept 7 = .ok (.iload_n 2, 1) := by decide +kernel
theorem dX4_kept_8 : decode cX4_kept 8 = .ok (.ifCond .lt 9, 3) := by decide +kernel
theorem dX4_kept_11 : decode cX4_kept 11 = .ok (.iload_n 2, 1) := by decide +kernel
theorem dX4_kept_12 : decode cX4_kept 12 = .ok (.bipush 8, 2) := by decide +kernel
theorem dX4_kept_14 : decode cX4_kept 14 = .ok (.if_icmp .lt 5, 3) := by decide +kernel
theorem dX4_kept_17 : decode cX4_kept 17 = .ok (.iconst 0, 1) := by decide +kernel
theorem dX4_kept_18 : decode cX4_kept 18 = .ok (.ireturn, 1) := by decide +kernel
theorem dX4_kept_19 : decode cX4_kept 19 = .ok (.aload_n 0, 1) := by decide +kernel
theorem dX4_kept_20 : decode cX4_kept 20 = .ok (.getfield 15, 3) := by decide +kernel
theorem dX4_kept_23 : decode cX4_kept 23 = .ok (.iload_n 1, 1) := by decide +kernel
theorem dX4_kept_24 : decode cX4_kept 24 = .ok (.bipush 8, 2) := by decide +kernel
theorem dX4_kept_26 : decode cX4_kept 26 = .ok (.imul, 1) := by decide +kernel
theorem dX4_kept_27 : decode cX4_kept 27 = .ok (.iload_n 2, 1) := by decide +kernel
theorem dX4_kept_28 : decode cX4_kept 28 = .ok (.iadd, 1) := by decide +kernel
theorem dX4_kept_29 : decode cX4_kept 29 = .ok (.iaload, 1) := by decide +kernel
theorem dX4_kept_30 : decode cX4_kept 30 = .ok (.ireturn, 1) := by decide +kernel
theorem dX4_giveStory_0 : decode cX4_giveStory 0 = .ok (.aload_n 2, 1) := by decide +kernel
theorem dX4_giveStory_1 : decode cX4_giveStory 1 = .ok (.aload_n 0, 1) := by decide +kernel
theorem dX4_giveStory_2 : decode cX4_giveStory 2 = .ok (.iload_n 1, 1) := by decide +kernel
theorem dX4_giveStory_3 : decode cX4_giveStory 3 = .ok (.iconst 0, 1) := by decide +kernel
theorem dX4_giveStory_4 : decode cX4_giveStory 4 = .ok (.invokevirtual 38, 3) := by decide +kernel
theorem dX4_giveStory_7 : decode cX4_giveStory 7 = .ok (.aload_n 0, 1) := by decide +kernel
theorem dX4_giveStory_8 : decode cX4_giveStory 8 = .ok (.iload_n 1, 1) := by decide +kernel
theorem dX4_giveStory_9 : decode cX4_giveStory 9 = .ok (.iconst 1, 1) := by decide +kernel
theorem dX4_giveStory_10 : decode cX4_giveStory 10 = .ok (.invokevirtual 38, 3) := by decide +kernel
theorem dX4_giveStory_13 : decode cX4_giveStory 13 = .ok (.aload_n 0, 1) := by decide +kernel
theorem dX4_giveStory_14 : decode cX4_giveStory 14 = .ok (.iload_n 1, 1) := by decide +kernel
theorem dX4_giveStory_15 : decode cX4_giveStory 15 = .ok (.iconst 2, 1) := by decide +kernel
theorem dX4_giveStory_16 : decode cX4_giveStory 16 = .ok (.invokevirtual 38, 3) := by decide +kernel
theorem dX4_giveStory_19 : decode cX4_giveStory 19 = .ok (.aload_n 0, 1) := by decide +kernel
theorem dX4_giveStory_20 : decode cX4_giveStory 20 = .ok (.iload_n 1, 1) := by decide +kernel
theorem dX4_giveStory_21 : decode cX4_giveStory 21 = .ok (.iconst 3, 1) := by decide +kernel
theorem dX4_giveStory_22 : decode cX4_giveStory 22 = .ok (.invokevirtual 38, 3) := by decide +kernel
theorem dX4_giveStory_25 : decode cX4_giveStory 25 = .ok (.aload_n 0, 1) := by decide +kernel
theorem dX4_giveStory_26 : decode cX4_giveStory 26 = .ok (.iload_n 1, 1) := by decide +kernel
theorem dX4_giveStory_27 : decode cX4_giveStory 27 = .ok (.iconst 4, 1) := by decide +kernel
theorem dX4_giveStory_28 : decode cX4_giveStory 28 = .ok (.invokevirtual 38, 3) := by decide +kernel
theorem dX4_giveStory_31 : decode cX4_giveStory 31 = .ok (.invokevirtual 41, 3) := by decide +kernel
theorem dX4_giveStory_34 : decode cX4_giveStory 34 = .ok (.istore_n 3, 1) := by decide +kernel
theorem dX4_giveStory_35 : decode cX4_giveStory 35 = .ok (.iload_n 3, 1) := by decide +kernel
theorem dX4_giveStory_36 : decode cX4_giveStory 36 = .ok (.iconst (-1), 1) := by decide +kernel
theorem dX4_giveStory_37 : decode cX4_giveStory 37 = .ok (.if_icmp .eq 41, 3) := by decide +kernel
theorem dX4_giveStory_40 : decode cX4_giveStory 40 = .ok (.aload_n 2, 1) := by decide +kernel
theorem dX4_giveStory_41 : decode cX4_giveStory 41 = .ok (.iload_n 3, 1) := by decide +kernel
theorem dX4_giveStory_42 : decode cX4_giveStory 42 = .ok (.aload_n 0, 1) := by decide +kernel
theorem dX4_giveStory_43 : decode cX4_giveStory 43 = .ok (.iload_n 1, 1) := by decide +kernel
theorem dX4_giveStory_44 : decode cX4_giveStory 44 = .ok (.iconst 5, 1) := by decide +kernel
theorem dX4_giveStory_45 : decode cX4_giveStory 45 = .ok (.invokevirtual 38, 3) := by decide +kernel
theorem dX4_giveStory_48 : decode cX4_giveStory 48 = .ok (.aload_n 0, 1) := by decide +kernel
theorem dX4_giveStory_49 : decode cX4_giveStory 49 = .ok (.iload_n 1, 1) := by decide +kernel
theorem dX4_giveStory_50 : decode cX4_giveStory 50 = .ok (.bipush 6, 2) := by decide +kernel
theorem dX4_giveStory_52 : decode cX4_giveStory 52 = .ok (.invokevirtual 38, 3) := by decide +kernel
theorem dX4_giveStory_55 : decode cX4_giveStory 55 = .ok (.invokevirtual 45, 3) := by decide +kernel
theorem dX4_giveStory_58 : decode cX4_giveStory 58 = .ok (.aload_n 2, 1) := by decide +kernel
theorem dX4_giveStory_59 : decode cX4_giveStory 59 = .ok (.iload_n 3, 1) := by decide +kernel
theorem dX4_giveStory_60 : decode cX4_giveStory 60 = .ok (.aload_n 0, 1) := by decide +kernel
theorem dX4_giveStory_61 : decode cX4_giveStory 61 = .ok (.iload_n 1, 1) := by decide +kernel
theorem dX4_giveStory_62 : decode cX4_giveStory 62 = .ok (.bipush 7, 2) := by decide +kernel
theorem dX4_giveStory_64 : decode cX4_giveStory 64 = .ok (.invokevirtual 38, 3) := by decide +kernel
theorem dX4_giveStory_67 : decode cX4_giveStory 67 = .ok (.ifCond .eq 7, 3) := by decide +kernel
theorem dX4_giveStory_70 : decode cX4_giveStory 70 = .ok (.iconst 1, 1) := by decide +kernel
theorem dX4_giveStory_71 : decode cX4_giveStory 71 = .ok (.goto 4, 3) := by decide +kernel
theorem dX4_giveStory_74 : decode cX4_giveStory 74 = .ok (.iconst 0, 1) := by decide +kernel
theorem dX4_giveStory_75 : decode cX4_giveStory 75 = .ok (.invokevirtual 49, 3) := by decide +kernel
theorem dX4_giveStory_78 : decode cX4_giveStory 78 = .ok (.iload_n 3, 1) := by decide +kernel
theorem dX4_giveStory_79 : decode cX4_giveStory 79 = .ok (.ireturn, 1) := by decide +kernel
theorem dX4_giveAdvertisement_0 : decode cX4_giveAdvertisement 0 = .ok (.aload_n 0, 1) := by decide +kernel
theorem dX4_giveAdvertisement_1 : decode cX4_giveAdvertisement 1 = .ok (.iload_n 1, 1) := by decide +kernel
theorem dX4_giveAdvertisement_2 : decode cX4_giveAdvertisement 2 = .ok (.iconst 0, 1) := by decide +kernel
theorem dX4_giveAdvertisement_3 : decode cX4_giveAdvertisement 3 = .ok (.invokevirtual 38, 3) := by decide +kernel
theorem dX4_giveAdvertisement_6 : decode cX4_giveAdvertisement 6 = .ok (.istore_n 3, 1) := by decide +kernel
theorem dX4_giveAdvertisement_7 : decode cX4_giveAdvertisement 7 = .ok (.aload_n 0, 1) := by decide +kernel
theorem dX4_giveAdvertisement_8 : decode cX4_giveAdvertisement 8 = .ok (.iload_n 1, 1) := by decide +kernel
theorem dX4_giveAdvertisement_9 : decode cX4_giveAdvertisement 9 = .ok (.iconst 1, 1) := by decide +kernel
theorem dX4_giveAdvertisement_10 : decode cX4_giveAdvertisement 10 = .ok (.invokevirtual 38, 3) := by decide +kernel
theorem dX4_giveAdvertisement_13 : decode cX4_giveAdvertisement 13 = .ok (.istore 4, 2) := by decide +kernel
theorem dX4_giveAdvertisement_15 : decode cX4_giveAdvertisement 15 = .ok (.aload_n 0, 1) := by decide +kernel
theorem dX4_giveAdvertisement_16 : decode cX4_giveAdvertisement 16 = .ok (.iload_n 1, 1) := by decide +kernel
theorem dX4_giveAdvertisement_17 : decode cX4_giveAdvertisement 17 = .ok (.iconst 2, 1) := by decide +kernel
theorem dX4_giveAdvertisement_18 : decode cX4_giveAdvertisement 18 = .ok (.invokevirtual 38, 3) := by decide +kernel
theorem dX4_giveAdvertisement_21 : decode cX4_giveAdvertisement 21 = .ok (.istore 5, 2) := by decide +kernel
theorem dX4_giveAdvertisement_23 : decode cX4_giveAdvertisement 23 = .ok (.aload_n 0, 1) := by decide +kernel
theorem dX4_giveAdvertisement_24 : decode cX4_giveAdvertisement 24 = .ok (.iload_n 1, 1) := by decide +kernel
theorem dX4_giveAdvertisement_25 : decode cX4_giveAdvertisement 25 = .ok (.iconst 3, 1) := by decide +kernel
theorem dX4_giveAdvertisement_26 : decode cX4_giveAdvertisement 26 = .ok (.invokevirtual 38, 3) := by decide +kernel
theorem dX4_giveAdvertisement_29 : decode cX4_giveAdvertisement 29 = .ok (.istore 6, 2) := by decide +kernel
theorem dX4_giveAdvertisement_31 : decode cX4_giveAdvertisement 31 = .ok (.aload_n 0, 1) := by decide +kernel
theorem dX4_giveAdvertisement_32 : decode cX4_giveAdvertisement 32 = .ok (.iload_n 1, 1) := by decide +kernel
theorem dX4_giveAdvertisement_33 : decode cX4_giveAdvertisement 33 = .ok (.iconst 4, 1) := by decide +kernel
theorem dX4_giveAdvertisement_34 : decode cX4_giveAdvertisement 34 = .ok (.invokevirtual 38, 3) := by decide +kernel
theorem dX4_giveAdvertisement_37 : decode cX4_giveAdvertisement 37 = .ok (.istore 7, 2) := by decide +kernel
theorem dX4_giveAdvertisement_39 : decode cX4_giveAdvertisement 39 = .ok (.aload_n 0, 1) := by decide +kernel
theorem dX4_giveAdvertisement_40 : decode cX4_giveAdvertisement 40 = .ok (.iload_n 1, 1) := by decide +kernel
theorem dX4_giveAdvertisement_41 : decode cX4_giveAdvertisement 41 = .ok (.iconst 5, 1) := by decide +kernel
theorem dX4_giveAdvertisement_42 : decode cX4_giveAdvertisement 42 = .ok (.invokevirtual 38, 3) := by decide +kernel
theorem dX4_giveAdvertisement_45 : decode cX4_giveAdvertisement 45 = .ok (.istore 8, 2) := by decide +kernel
theorem dX4_giveAdvertisement_47 : decode cX4_giveAdvertisement 47 = .ok (.aload_n 2, 1) := by decide +kernel
theorem dX4_giveAdvertisement_48 : decode cX4_giveAdvertisement 48 = .ok (.iload_n 3, 1) := by decide +kernel
theorem dX4_giveAdvertisement_49 : decode cX4_giveAdvertisement 49 = .ok (.iload 4, 2) := by decide +kernel
theorem dX4_giveAdvertisement_51 : decode cX4_giveAdvertisement 51 = .ok (.iload 5, 2) := by decide +kernel
theorem dX4_giveAdvertisement_53 : decode cX4_giveAdvertisement 53 = .ok (.iload 6, 2) := by decide +kernel
theorem dX4_giveAdvertisement_55 : decode cX4_giveAdvertisement 55 = .ok (.iload 7, 2) := by decide +kernel
theorem dX4_giveAdvertisement_57 : decode cX4_giveAdvertisement 57 = .ok (.iload 8, 2) := by decide +kernel
theorem dX4_giveAdvertisement_59 : decode cX4_giveAdvertisement 59 = .ok (.invokevirtual 53, 3) := by decide +kernel
theorem dX4_giveAdvertisement_62 : decode cX4_giveAdvertisement 62 = .ok (.ifCond .eq 5, 3) := by decide +kernel
theorem dX4_giveAdvertisement_65 : decode cX4_giveAdvertisement 65 = .ok (.iconst (-1), 1) := by decide +kernel
theorem dX4_giveAdvertisement_66 : decode cX4_giveAdvertisement 66 = .ok (.ireturn, 1) := by decide +kernel
theorem dX4_giveAdvertisement_67 : decode cX4_giveAdvertisement 67 = .ok (.aload_n 2, 1) := by decide +kernel
theorem dX4_giveAdvertisement_68 : decode cX4_giveAdvertisement 68 = .ok (.iload_n 3, 1) := by decide +kernel
theorem dX4_giveAdvertisement_69 : decode cX4_giveAdvertisement 69 = .ok (.iload 4, 2) := by decide +kernel
theorem dX4_giveAdvertisement_71 : decode cX4_giveAdvertisement 71 = .ok (.iload 5, 2) := by decide +kernel
theorem dX4_giveAdvertisement_73 : decode cX4_giveAdvertisement 73 = .ok (.iload 6, 2) := by decide +kernel
theorem dX4_giveAdvertisement_75 : decode cX4_giveAdvertisement 75 = .ok (.iload 7, 2) := by decide +kernel
theorem dX4_giveAdvertisement_77 : decode cX4_giveAdvertisement 77 = .ok (.iload 8, 2) := by decide +kernel
theorem dX4_giveAdvertisement_79 : decode cX4_giveAdvertisement 79 = .ok (.invokevirtual 57, 3) := by decide +kernel
theorem dX4_giveAdvertisement_82 : decode cX4_giveAdvertisement 82 = .ok (.ireturn, 1) := by decide +kernel
theorem dX5_addAdvertisement_0 : decode cX5_addAdvertisement 0 = .ok (.aload_n 0, 1) := by decide +kernel
theorem dX5_addAdvertisement_1 : decode cX5_addAdvertisement 1 = .ok (.getfield 20, 3) := by decide +kernel
theorem dX5_addAdvertisement_4 : decode cX5_addAdvertisement 4 = .ok (.iload_n 1, 1) := by decide +kernel
theorem dX5_addAdvertisement_5 : decode cX5_addAdvertisement 5 = .ok (.iload_n 2, 1) := by decide +kernel
theorem dX5_addAdvertisement_6 : decode cX5_addAdvertisement 6 = .ok (.iload_n 3, 1) := by decide +kernel
theorem dX5_addAdvertisement_7 : decode cX5_addAdvertisement 7 = .ok (.iload 4, 2) := by decide +kernel
theorem dX5_addAdvertisement_9 : decode cX5_addAdvertisement 9 = .ok (.iload 5, 2) := by decide +kernel
theorem dX5_addAdvertisement_11 : decode cX5_addAdvertisement 11 = .ok (.iload 6, 2) := by decide +kernel
theorem dX5_addAdvertisement_13 : decode cX5_addAdvertisement 13 = .ok (.invokevirtual 54, 3) := by decide +kernel
theorem dX5_addAdvertisement_16 : decode cX5_addAdvertisement 16 = .ok (.invokestatic 58, 3) := by decide +kernel
theorem dX5_addAdvertisement_19 : decode cX5_addAdvertisement 19 = .ok (.aload_n 0, 1) := by decide +kernel
theorem dX5_addAdvertisement_20 : decode cX5_addAdvertisement 20 = .ok (.getfield 30, 3) := by decide +kernel
theorem dX5_addAdvertisement_23 : decode cX5_addAdvertisement 23 = .ok (.aload_n 0, 1) := by decide +kernel
theorem dX5_addAdvertisement_24 : decode cX5_addAdvertisement 24 = .ok (.getfield 20, 3) := by decide +kernel
theorem dX5_addAdvertisement_27 : decode cX5_addAdvertisement 27 = .ok (.invokevirtual 62, 3) := by decide +kernel
theorem dX5_addAdvertisement_30 : decode cX5_addAdvertisement 30 = .ok (.aload_n 0, 1) := by decide +kernel
theorem dX5_addAdvertisement_31 : decode cX5_addAdvertisement 31 = .ok (.getfield 20, 3) := by decide +kernel
theorem dX5_addAdvertisement_34 : decode cX5_addAdvertisement 34 = .ok (.iload_n 1, 1) := by decide +kernel
theorem dX5_addAdvertisement_35 : decode cX5_addAdvertisement 35 = .ok (.iload_n 2, 1) := by decide +kernel
theorem dX5_addAdvertisement_36 : decode cX5_addAdvertisement 36 = .ok (.iload_n 3, 1) := by decide +kernel
theorem dX5_addAdvertisement_37 : decode cX5_addAdvertisement 37 = .ok (.iload 4, 2) := by decide +kernel
theorem dX5_addAdvertisement_39 : decode cX5_addAdvertisement 39 = .ok (.iload 5, 2) := by decide +kernel
theorem dX5_addAdvertisement_41 : decode cX5_addAdvertisement 41 = .ok (.iload 6, 2) := by decide +kernel
theorem dX5_addAdvertisement_43 : decode cX5_addAdvertisement 43 = .ok (.invokevirtual 66, 3) := by decide +kernel
theorem dX5_addAdvertisement_46 : decode cX5_addAdvertisement 46 = .ok (.istore 7, 2) := by decide +kernel
theorem dX5_addAdvertisement_48 : decode cX5_addAdvertisement 48 = .ok (.aload_n 0, 1) := by decide +kernel
theorem dX5_addAdvertisement_49 : decode cX5_addAdvertisement 49 = .ok (.getfield 12, 3) := by decide +kernel
theorem dX5_addAdvertisement_52 : decode cX5_addAdvertisement 52 = .ok (.invokevirtual 69, 3) := by decide +kernel
theorem dX5_addAdvertisement_55 : decode cX5_addAdvertisement 55 = .ok (.iload 7, 2) := by decide +kernel
theorem dX5_addAdvertisement_57 : decode cX5_addAdvertisement 57 = .ok (.ireturn, 1) := by decide +kernel
theorem dX5_addStory_0 : decode cX5_addStory 0 = .ok (.aload_n 0, 1) := by decide +kernel
theorem dX5_addStory_1 : decode cX5_addStory 1 = .ok (.getfield 20, 3) := by decide +kernel
theorem dX5_addStory_4 : decode cX5_addStory 4 = .ok (.iload_n 1, 1) := by decide +kernel
theorem dX5_addStory_5 : decode cX5_addStory 5 = .ok (.iload_n 2, 1) := by decide +kernel
theorem dX5_addStory_6 : decode cX5_addStory 6 = .ok (.iload_n 3, 1) := by decide +kernel
theorem dX5_addStory_7 : decode cX5_addStory 7 = .ok (.iload 4, 2) := by decide +kernel
theorem dX5_addStory_9 : decode cX5_addStory 9 = .ok (.iload 5, 2) := by decide +kernel
theorem dX5_addStory_11 : decode cX5_addStory 11 = .ok (.invokevirtual 72, 3) := by decide +kernel
theorem dX5_addStory_14 : decode cX5_addStory 14 = .ok (.invokestatic 58, 3) := by decide +kernel
theorem dX5_addStory_17 : decode cX5_addStory 17 = .ok (.aload_n 0, 1) := by decide +kernel
theorem dX5_addStory_18 : decode cX5_addStory 18 = .ok (.getfield 30, 3) := by decide +kernel
theorem dX5_addStory_21 : decode cX5_addStory 21 = .ok (.aload_n 0, 1) := by decide +kernel
theorem dX5_addStory_22 : decode cX5_addStory 22 = .ok (.getfield 20, 3) := by decide +kernel
theorem dX5_addStory_25 : decode cX5_addStory 25 = .ok (.invokevirtual 62, 3) := by decide +kernel
theorem dX5_addStory_28 : decode cX5_addStory 28 = .ok (.aload_n 0, 1) := by decide +kernel
theorem dX5_addStory_29 : decode cX5_addStory 29 = .ok (.getfield 20, 3) := by decide +kernel
theorem dX5_addStory_32 : decode cX5_addStory 32 = .ok (.iload_n 1, 1) := by decide +kernel
theorem dX5_addStory_33 : decode cX5_addStory 33 = .ok (.iload_n 2, 1) := by decide +kernel
theorem dX5_addStory_34 : decode cX5_addStory 34 = .ok (.iload_n 3, 1) := by decide +kernel
theorem dX5_addStory_35 : decode cX5_addStory 35 = .ok (.iload 4, 2) := by decide +kernel
theorem dX5_addStory_37 : decode cX5_addStory 37 = .ok (.iload 5, 2) := by decide +kernel
theorem dX5_addStory_39 : decode cX5_addStory 39 = .ok (.invokevirtual 76, 3) := by decide +kernel
theorem dX5_addStory_42 : decode cX5_addStory 42 = .ok (.istore 6, 2) := by decide +kernel
theorem dX5_addStory_44 : decode cX5_addStory 44 = .ok (.aload_n 0, 1) := by decide +kernel
theorem dX5_addStory_45 : decode cX5_addStory 45 = .ok (.getfield 12, 3) := by decide +kernel
theorem dX5_addStory_48 : decode cX5_addStory 48 = .ok (.invokevirtual 69, 3) := by decide +kernel
theorem dX5_addStory_51 : decode cX5_addStory 51 = .ok (.iload 6, 2) := by decide +kernel
theorem dX5_addStory_53 : decode cX5_addStory 53 = .ok (.ireturn, 1) := by decide +kernel
theorem dX5_setPhoto_0 : decode cX5_setPhoto 0 = .ok (.aload_n 0, 1) := by decide +kernel
theorem dX5_setPhoto_1 : decode cX5_setPhoto 1 = .ok (.getfield 20, 3) := by decide +kernel
theorem dX5_setPhoto_4 : decode cX5_setPhoto 4 = .ok (.iload_n 1, 1) := by decide +kernel
theorem dX5_setPhoto_5 : decode cX5_setPhoto 5 = .ok (.iload_n 2, 1) := by decide +kernel
theorem dX5_setPhoto_6 : decode cX5_setPhoto 6 = .ok (.iload_n 3, 1) := by decide +kernel
theorem dX5_setPhoto_7 : decode cX5_setPhoto 7 = .ok (.invokevirtual 79, 3) := by decide +kernel
theorem dX5_setPhoto_10 : decode cX5_setPhoto 10 = .ok (.invokestatic 58, 3) := by decide +kernel
theorem dX5_setPhoto_13 : decode cX5_setPhoto 13 = .ok (.aload_n 0, 1) := by decide +kernel
theorem dX5_setPhoto_14 : decode cX5_setPhoto 14 = .ok (.getfield 30, 3) := by decide +kernel
theorem dX5_setPhoto_17 : decode cX5_setPhoto 17 = .ok (.aload_n 0, 1) := by decide +kernel
theorem dX5_setPhoto_18 : decode cX5_setPhoto 18 = .ok (.getfield 20, 3) := by decide +kernel
theorem dX5_setPhoto_21 : decode cX5_setPhoto 21 = .ok (.invokevirtual 62, 3) := by decide +kernel
theorem dX5_setPhoto_24 : decode cX5_setPhoto 24 = .ok (.aload_n 0, 1) := by decide +kernel
theorem dX5_setPhoto_25 : decode cX5_setPhoto 25 = .ok (.getfield 20, 3) := by decide +kernel
theorem dX5_setPhoto_28 : decode cX5_setPhoto 28 = .ok (.iload_n 1, 1) := by decide +kernel
theorem dX5_setPhoto_29 : decode cX5_setPhoto 29 = .ok (.iconst 5, 1) := by decide +kernel
theorem dX5_setPhoto_30 : decode cX5_setPhoto 30 = .ok (.invokevirtual 83, 3) := by decide +kernel
theorem dX5_setPhoto_33 : decode cX5_setPhoto 33 = .ok (.istore 4, 2) := by decide +kernel
theorem dX5_setPhoto_35 : decode cX5_setPhoto 35 = .ok (.aload_n 0, 1) := by decide +kernel
theorem dX5_setPhoto_36 : decode cX5_setPhoto 36 = .ok (.getfield 20, 3) := by decide +kernel
theorem dX5_setPhoto_39 : decode cX5_setPhoto 39 = .ok (.iload_n 1, 1) := by decide +kernel
theorem dX5_setPhoto_40 : decode cX5_setPhoto 40 = .ok (.iload_n 2, 1) := by decide +kernel
theorem dX5_setPhoto_41 : decode cX5_setPhoto 41 = .ok (.iload_n 3, 1) := by decide +kernel
theorem dX5_setPhoto_42 : decode cX5_setPhoto 42 = .ok (.invokevirtual 87, 3) := by decide +kernel
theorem dX5_setPhoto_45 : decode cX5_setPhoto 45 = .ok (.aload_n 0, 1) := by decide +kernel
theorem dX5_setPhoto_46 : decode cX5_setPhoto 46 = .ok (.getfield 12, 3) := by decide +kernel
theorem dX5_setPhoto_49 : decode cX5_setPhoto 49 = .ok (.invokevirtual 69, 3) := by decide +kernel
theorem dX5_setPhoto_52 : decode cX5_setPhoto 52 = .ok (.iload 4, 2) := by decide +kernel
theorem dX5_setPhoto_54 : decode cX5_setPhoto 54 = .ok (.ireturn, 1) := by decide +kernel
theorem dX5_setLate_0 : decode cX5_setLate 0 = .ok (.aload_n 0, 1) := by decide +kernel
theorem dX5_setLate_1 : decode cX5_setLate 1 = .ok (.iload_n 1, 1) := by decide +kernel
theorem dX5_setLate_2 : decode cX5_setLate 2 = .ok (.invokevirtual 91, 3) := by decide +kernel
theorem dX5_setLate_5 : decode cX5_setLate 5 = .ok (.aload_n 0, 1) := by decide +kernel
theorem dX5_setLate_6 : decode cX5_setLate 6 = .ok (.getfield 30, 3) := by decide +kernel
theorem dX5_setLate_9 : decode cX5_setLate 9 = .ok (.aload_n 0, 1) := by decide +kernel
theorem dX5_setLate_10 : decode cX5_setLate 10 = .ok (.getfield 20, 3) := by decide +kernel
theorem dX5_setLate_13 : decode cX5_setLate 13 = .ok (.invokevirtual 62, 3) := by decide +kernel
theorem dX5_setLate_16 : decode cX5_setLate 16 = .ok (.aload_n 0, 1) := by decide +kernel
theorem dX5_setLate_17 : decode cX5_setLate 17 = .ok (.getfield 20, 3) := by decide +kernel
theorem dX5_setLate_20 : decode cX5_setLate 20 = .ok (.iload_n 1, 1) := by decide +kernel
theorem dX5_setLate_21 : decode cX5_setLate 21 = .ok (.invokevirtual 94, 3) := by decide +kernel
theorem dX5_setLate_24 : decode cX5_setLate 24 = .ok (.istore_n 3, 1) := by decide +kernel
theorem dX5_setLate_25 : decode cX5_setLate 25 = .ok (.aload_n 0, 1) := by decide +kernel
theorem dX5_setLate_26 : decode cX5_setLate 26 = .ok (.getfield 20, 3) := by decide +kernel
theorem dX5_setLate_29 : decode cX5_setLate 29 = .ok (.iload_n 1, 1) := by decide +kernel
theorem dX5_setLate_30 : decode cX5_setLate 30 = .ok (.iload_n 2, 1) := by decide +kernel
theorem dX5_setLate_31 : decode cX5_setLate 31 = .ok (.invokevirtual 98, 3) := by decide +kernel
theorem dX5_setLate_34 : decode cX5_setLate 34 = .ok (.aload_n 0, 1) := by decide +kernel
theorem dX5_setLate_35 : decode cX5_setLate 35 = .ok (.getfield 12, 3) := by decide +kernel
theorem dX5_setLate_38 : decode cX5_setLate 38 = .ok (.invokevirtual 69, 3) := by decide +kernel
theorem dX5_setLate_41 : decode cX5_setLate 41 = .ok (.iload_n 3, 1) := by decide +kernel
theorem dX5_setLate_42 : decode cX5_setLate 42 = .ok (.ireturn, 1) := by decide +kernel
theorem dX5_change_0 : decode cX5_change 0 = .ok (.aload_n 0, 1) := by decide +kernel
theorem dX5_change_1 : decode cX5_change 1 = .ok (.iload_n 1, 1) := by decide +kernel
theorem dX5_change_2 : decode cX5_change 2 = .ok (.invokevirtual 91, 3) := by decide +kernel
theorem dX5_change_5 : decode cX5_change 5 = .ok (.iload_n 2, 1) := by decide +kernel
theorem dX5_change_6 : decode cX5_change 6 = .ok (.iload_n 3, 1) := by decide +kernel
theorem dX5_change_7 : decode cX5_change 7 = .ok (.invokestatic 102, 3) := by decide +kernel
theorem dX5_change_10 : decode cX5_change 10 = .ok (.ifCond .ne 11, 3) := by decide +kernel
theorem dX5_change_13 : decode cX5_change 13 = .ok (.new 106, 3) := by decide +kernel
theorem dX5_change_16 : decode cX5_change 16 = .ok (.dup, 1) := by decide +kernel
theorem dX5_change_17 : decode cX5_change 17 = .ok (.invokespecial 108, 3) := by decide +kernel
theorem dX5_change_20 : decode cX5_change 20 = .ok (.athrow, 1) := by decide +kernel
theorem dX5_change_21 : decode cX5_change 21 = .ok (.aload_n 0, 1) := by decide +kernel
theorem dX5_change_22 : decode cX5_change 22 = .ok (.getfield 30, 3) := by decide +kernel
theorem dX5_change_25 : decode cX5_change 25 = .ok (.aload_n 0, 1) := by decide +kernel
theorem dX5_change_26 : decode cX5_change 26 = .ok (.getfield 20, 3) := by decide +kernel
theorem dX5_change_29 : decode cX5_change 29 = .ok (.invokevirtual 62, 3) := by decide +kernel
theorem dX5_change_32 : decode cX5_change 32 = .ok (.aload_n 0, 1) := by decide +kernel
theorem dX5_change_33 : decode cX5_change 33 = .ok (.getfield 20, 3) := by decide +kernel
theorem dX5_change_36 : decode cX5_change 36 = .ok (.iload_n 1, 1) := by decide +kernel
theorem dX5_change_37 : decode cX5_change 37 = .ok (.iload_n 2, 1) := by decide +kernel
theorem dX5_change_38 : decode cX5_change 38 = .ok (.invokevirtual 83, 3) := by decide +kernel
theorem dX5_change_41 : decode cX5_change 41 = .ok (.istore 4, 2) := by decide +kernel
theorem dX5_change_43 : decode cX5_change 43 = .ok (.aload_n 0, 1) := by decide +kernel
theorem dX5_change_44 : decode cX5_change 44 = .ok (.getfield 20, 3) := by decide +kernel
theorem dX5_change_47 : decode cX5_change 47 = .ok (.iload_n 1, 1) := by decide +kernel
theorem dX5_change_48 : decode cX5_change 48 = .ok (.iload_n 2, 1) := by decide +kernel
theorem dX5_change_49 : decode cX5_change 49 = .ok (.iload_n 3, 1) := by decide +kernel
theorem dX5_change_50 : decode cX5_change 50 = .ok (.invokevirtual 109, 3) := by decide +kernel
theorem dX5_change_53 : decode cX5_change 53 = .ok (.aload_n 0, 1) := by decide +kernel
theorem dX5_change_54 : decode cX5_change 54 = .ok (.getfield 12, 3) := by decide +kernel
theorem dX5_change_57 : decode cX5_change 57 = .ok (.invokevirtual 69, 3) := by decide +kernel
theorem dX5_change_60 : decode cX5_change 60 = .ok (.iload 4, 2) := by decide +kernel
theorem dX5_change_62 : decode cX5_change 62 = .ok (.ireturn, 1) := by decide +kernel
theorem dX5_remove_0 : decode cX5_remove 0 = .ok (.aload_n 0, 1) := by decide +kernel
theorem dX5_remove_1 : decode cX5_remove 1 = .ok (.iload_n 1, 1) := by decide +kernel
theorem dX5_remove_2 : decode cX5_remove 2 = .ok (.iload_n 2, 1) := by decide +kernel
theorem dX5_remove_3 : decode cX5_remove 3 = .ok (.invokevirtual 112, 3) := by decide +kernel
theorem dX5_remove_6 : decode cX5_remove 6 = .ok (.aload_n 0, 1) := by decide +kernel
theorem dX5_remove_7 : decode cX5_remove 7 = .ok (.getfield 30, 3) := by decide +kernel
theorem dX5_remove_10 : decode cX5_remove 10 = .ok (.aload_n 0, 1) := by decide +kernel
theorem dX5_remove_11 : decode cX5_remove 11 = .ok (.getfield 20, 3) := by decide +kernel
theorem dX5_remove_14 : decode cX5_remove 14 = .ok (.invokevirtual 62, 3) := by decide +kernel
theorem dX5_remove_17 : decode cX5_remove 17 = .ok (.iload_n 1, 1) := by decide +kernel
theorem dX5_remove_18 : decode cX5_remove 18 = .ok (.ifCond .eq 14, 3) := by decide +kernel
theorem dX5_remove_21 : decode cX5_remove 21 = .ok (.aload_n 0, 1) := by decide +kernel
theorem dX5_remove_22 : decode cX5_remove 22 = .ok (.getfield 20, 3) := by decide +kernel
theorem dX5_remove_25 : decode cX5_remove 25 = .ok (.iload_n 2, 1) := by decide +kernel
theorem dX5_remove_26 : decode cX5_remove 26 = .ok (.invokevirtual 116, 3) := by decide +kernel
theorem dX5_remove_29 : decode cX5_remove 29 = .ok (.goto 11, 3) := by decide +kernel
theorem dX5_remove_32 : decode cX5_remove 32 = .ok (.aload_n 0, 1) := by decide +kernel
theorem dX5_remove_33 : decode cX5_remove 33 = .ok (.getfield 20, 3) := by decide +kernel
theorem dX5_remove_36 : decode cX5_remove 36 = .ok (.iload_n 2, 1) := by decide +kernel
theorem dX5_remove_37 : decode cX5_remove 37 = .ok (.invokevirtual 119, 3) := by decide +kernel
theorem dX5_remove_40 : decode cX5_remove 40 = .ok (.aload_n 0, 1) := by decide +kernel
theorem dX5_remove_41 : decode cX5_remove 41 = .ok (.getfield 12, 3) := by decide +kernel
theorem dX5_remove_44 : decode cX5_remove 44 = .ok (.invokevirtual 69, 3) := by decide +kernel
theorem dX5_remove_47 : decode cX5_remove 47 = .ok (.iload_n 1, 1) := by decide +kernel
theorem dX5_remove_48 : decode cX5_remove 48 = .ok (.ifCond .eq 13, 3) := by decide +kernel
theorem dX5_remove_51 : decode cX5_remove 51 = .ok (.aload_n 0, 1) := by decide +kernel
theorem dX5_remove_52 : decode cX5_remove 52 = .ok (.getfield 20, 3) := by decide +kernel
theorem dX5_remove_55 : decode cX5_remove 55 = .ok (.invokevirtual 122, 3) := by decide +kernel
theorem dX5_remove_58 : decode cX5_remove 58 = .ok (.goto 10, 3) := by decide +kernel
theorem dX5_remove_61 : decode cX5_remove 61 = .ok (.aload_n 0, 1) := by decide +kernel
theorem dX5_remove_62 : decode cX5_remove 62 = .ok (.getfield 20, 3) := by decide +kernel
theorem dX5_remove_65 : decode cX5_remove 65 = .ok (.invokevirtual 126, 3) := by decide +kernel
theorem dX5_remove_68 : decode cX5_remove 68 = .ok (.ireturn, 1) := by decide +kernel
theorem dX5_story_0 : decode cX5_story 0 = .ok (.aload_n 0, 1) := by decide +kernel
theorem dX5_story_1 : decode cX5_story 1 = .ok (.iload_n 1, 1) := by decide +kernel
theorem dX5_story_2 : decode cX5_story 2 = .ok (.invokevirtual 91, 3) := by decide +kernel
theorem dX5_story_5 : decode cX5_story 5 = .ok (.iload_n 2, 1) := by decide +kernel
theorem dX5_story_6 : decode cX5_story 6 = .ok (.ifCond .lt 19, 3) := by decide +kernel
theorem dX5_story_9 : decode cX5_story 9 = .ok (.iload_n 2, 1) := by decide +kernel
theorem dX5_story_10 : decode cX5_story 10 = .ok (.bipush 8, 2) := by decide +kernel
theorem dX5_story_12 : decode cX5_story 12 = .ok (.if_icmp .ge 13, 3) := by decide +kernel
theorem dX5_story_15 : decode cX5_story 15 = .ok (.aload_n 0, 1) := by decide +kernel
theorem dX5_story_16 : decode cX5_story 16 = .ok (.getfield 20, 3) := by decide +kernel
theorem dX5_story_19 : decode cX5_story 19 = .ok (.iload_n 1, 1) := by decide +kernel
theorem dX5_story_20 : decode cX5_story 20 = .ok (.iload_n 2, 1) := by decide +kernel
theorem dX5_story_21 : decode cX5_story 21 = .ok (.invokevirtual 83, 3) := by decide +kernel
theorem dX5_story_24 : decode cX5_story 24 = .ok (.ireturn, 1) := by decide +kernel
theorem dX5_story_25 : decode cX5_story 25 = .ok (.iload_n 2, 1) := by decide +kernel
theorem dX5_story_26 : decode cX5_story 26 = .ok (.tableswitch 79 8 12 #[34, 43, 52, 61, 70], 34) := by decide +kernel
theorem dX5_story_60 : decode cX5_story 60 = .ok (.aload_n 0, 1) := by decide +kernel
theorem dX5_story_61 : decode cX5_story 61 = .ok (.getfield 12, 3) := by decide +kernel
theorem dX5_story_64 : decode cX5_story 64 = .ok (.iload_n 1, 1) := by decide +kernel
theorem dX5_story_65 : decode cX5_story 65 = .ok (.invokevirtual 129, 3) := by decide +kernel
theorem dX5_story_68 : decode cX5_story 68 = .ok (.ireturn, 1) := by decide +kernel
theorem dX5_story_69 : decode cX5_story 69 = .ok (.aload_n 0, 1) := by decide +kernel
theorem dX5_story_70 : decode cX5_story 70 = .ok (.getfield 12, 3) := by decide +kernel
theorem dX5_story_73 : decode cX5_story 73 = .ok (.iload_n 1, 1) := by decide +kernel
theorem dX5_story_74 : decode cX5_story 74 = .ok (.invokevirtual 133, 3) := by decide +kernel
theorem dX5_story_77 : decode cX5_story 77 = .ok (.ireturn, 1) := by decide +kernel
theorem dX5_story_78 : decode cX5_story 78 = .ok (.aload_n 0, 1) := by decide +kernel
theorem dX5_story_79 : decode cX5_story 79 = .ok (.getfield 12, 3) := by decide +kernel
theorem dX5_story_82 : decode cX5_story 82 = .ok (.iload_n 1, 1) := by decide +kernel
theorem dX5_story_83 : decode cX5_story 83 = .ok (.invokevirtual 136, 3) := by decide +kernel
theorem dX5_story_86 : decode cX5_story 86 = .ok (.ireturn, 1) := by decide +kernel
theorem dX5_story_87 : decode cX5_story 87 = .ok (.aload_n 0, 1) := by decide +kernel
theorem dX5_story_88 : decode cX5_story 88 = .ok (.getfield 12, 3) := by decide +kernel
theorem dX5_story_91 : decode cX5_story 91 = .ok (.iload_n 1, 1) := by decide +kernel
theorem dX5_story_92 : decode cX5_story 92 = .ok (.invokevirtual 139, 3) := by decide +kernel
theorem dX5_story_95 : decode cX5_story 95 = .ok (.ireturn, 1) := by decide +kernel
theorem dX5_story_96 : decode cX5_story 96 = .ok (.aload_n 0, 1) := by decide +kernel
theorem dX5_story_97 : decode cX5_story 97 = .ok (.getfield 12, 3) := by decide +kernel
theorem dX5_story_100 : decode cX5_story 100 = .ok (.iload_n 1, 1) := by decide +kernel
theorem dX5_story_101 : decode cX5_story 101 = .ok (.invokevirtual 142, 3) := by decide +kernel
theorem dX5_story_104 : decode cX5_story 104 = .ok (.ireturn, 1) := by decide +kernel
theorem dX5_story_105 : decode cX5_story 105 = .ok (.new 106, 3) := by decide +kernel
theorem dX5_story_108 : decode cX5_story 108 = .ok (.dup, 1) := by decide +kernel
theorem dX5_story_109 : decode cX5_story 109 = .ok (.invokespecial 108, 3) := by decide +kernel
theorem dX5_story_112 : decode cX5_story 112 = .ok (.athrow, 1) := by decide +kernel
theorem dX5_advertisement_0 : decode cX5_advertisement 0 = .ok (.aload_n 0, 1) := by decide +kernel
theorem dX5_advertisement_1 : decode cX5_advertisement 1 = .ok (.iload_n 1, 1) := by decide +kernel
theorem dX5_advertisement_2 : decode cX5_advertisement 2 = .ok (.invokevirtual 145, 3) := by decide +kernel
theorem dX5_advertisement_5 : decode cX5_advertisement 5 = .ok (.iload_n 2, 1) := by decide +kernel
theorem dX5_advertisement_6 : decode cX5_advertisement 6 = .ok (.ifCond .lt 19, 3) := by decide +kernel
theorem dX5_advertisement_9 : decode cX5_advertisement 9 = .ok (.iload_n 2, 1) := by decide +kernel
theorem dX5_advertisement_10 : decode cX5_advertisement 10 = .ok (.bipush 6, 2) := by decide +kernel
theorem dX5_advertisement_12 : decode cX5_advertisement 12 = .ok (.if_icmp .ge 13, 3) := by decide +kernel
theorem dX5_advertisement_15 : decode cX5_advertisement 15 = .ok (.aload_n 0, 1) := by decide +kernel
theorem dX5_advertisement_16 : decode cX5_advertisement 16 = .ok (.getfield 20, 3) := by decide +kernel
theorem dX5_advertisement_19 : decode cX5_advertisement 19 = .ok (.iload_n 1, 1) := by decide +kernel
theorem dX5_advertisement_20 : decode cX5_advertisement 20 = .ok (.iload_n 2, 1) := by decide +kernel
theorem dX5_advertisement_21 : decode cX5_advertisement 21 = .ok (.invokevirtual 148, 3) := by decide +kernel
theorem dX5_advertisement_24 : decode cX5_advertisement 24 = .ok (.ireturn, 1) := by decide +kernel
theorem dX5_advertisement_25 : decode cX5_advertisement 25 = .ok (.iload_n 2, 1) := by decide +kernel
theorem dX5_advertisement_26 : decode cX5_advertisement 26 = .ok (.bipush 6, 2) := by decide +kernel
theorem dX5_advertisement_28 : decode cX5_advertisement 28 = .ok (.if_icmp .eq 11, 3) := by decide +kernel
theorem dX5_advertisement_31 : decode cX5_advertisement 31 = .ok (.new 106, 3) := by decide +kernel
theorem dX5_advertisement_34 : decode cX5_advertisement 34 = .ok (.dup, 1) := by decide +kernel
theorem dX5_advertisement_35 : decode cX5_advertisement 35 = .ok (.invokespecial 108, 3) := by decide +kernel
theorem dX5_advertisement_38 : decode cX5_advertisement 38 = .ok (.athrow, 1) := by decide +kernel
theorem dX5_advertisement_39 : decode cX5_advertisement 39 = .ok (.aload_n 0, 1) := by decide +kernel
theorem dX5_advertisement_40 : decode cX5_advertisement 40 = .ok (.getfield 20, 3) := by decide +kernel
theorem dX5_advertisement_43 : decode cX5_advertisement 43 = .ok (.iload_n 1, 1) := by decide +kernel
theorem dX5_advertisement_44 : decode cX5_advertisement 44 = .ok (.invokevirtual 151, 3) := by decide +kernel
theorem dX5_advertisement_47 : decode cX5_advertisement 47 = .ok (.ireturn, 1) := by decide +kernel
theorem dX5_cell_0 : decode cX5_cell 0 = .ok (.iload_n 1, 1) := by decide +kernel
theorem dX5_cell_1 : decode cX5_cell 1 = .ok (.iload_n 2, 1) := by decide +kernel
theorem dX5_cell_2 : decode cX5_cell 2 = .ok (.iload_n 3, 1) := by decide +kernel
theorem dX5_cell_3 : decode cX5_cell 3 = .ok (.invokestatic 154, 3) := by decide +kernel
theorem dX5_cell_6 : decode cX5_cell 6 = .ok (.aload_n 0, 1) := by decide +kernel
theorem dX5_cell_7 : decode cX5_cell 7 = .ok (.getfield 12, 3) := by decide +kernel
theorem dX5_cell_10 : decode cX5_cell 10 = .ok (.iload_n 1, 1) := by decide +kernel
theorem dX5_cell_11 : decode cX5_cell 11 = .ok (.iload_n 2, 1) := by decide +kernel
theorem dX5_cell_12 : decode cX5_cell 12 = .ok (.iload_n 3, 1) := by decide +kernel
theorem dX5_cell_13 : decode cX5_cell 13 = .ok (.invokestatic 157, 3) := by decide +kernel
theorem dX5_cell_16 : decode cX5_cell 16 = .ok (.invokevirtual 160, 3) := by decide +kernel
theorem dX5_cell_19 : decode cX5_cell 19 = .ok (.ireturn, 1) := by decide +kernel
theorem dX5_owner_0 : decode cX5_owner 0 = .ok (.iload_n 1, 1) := by decide +kernel
theorem dX5_owner_1 : decode cX5_owner 1 = .ok (.iload_n 2, 1) := by decide +kernel
theorem dX5_owner_2 : decode cX5_owner 2 = .ok (.iload_n 3, 1) := by decide +kernel
theorem dX5_owner_3 : decode cX5_owner 3 = .ok (.invokestatic 154, 3) := by decide +kernel
theorem dX5_owner_6 : decode cX5_owner 6 = .ok (.iload_n 1, 1) := by decide +kernel
theorem dX5_owner_7 : decode cX5_owner 7 = .ok (.iload_n 2, 1) := by decide +kernel
theorem dX5_owner_8 : decode cX5_owner 8 = .ok (.iload_n 3, 1) := by decide +kernel
theorem dX5_owner_9 : decode cX5_owner 9 = .ok (.invokestatic 157, 3) := by decide +kernel
theorem dX5_owner_12 : decode cX5_owner 12 = .ok (.istore 4, 2) := by decide +kernel
theorem dX5_owner_14 : decode cX5_owner 14 = .ok (.aload_n 0, 1) := by decide +kernel
theorem dX5_owner_15 : decode cX5_owner 15 = .ok (.getfield 12, 3) := by decide +kernel
theorem dX5_owner_18 : decode cX5_owner 18 = .ok (.iload 4, 2) := by decide +kernel
theorem dX5_owner_20 : decode cX5_owner 20 = .ok (.invokevirtual 160, 3) := by decide +kernel
theorem dX5_owner_23 : decode cX5_owner 23 = .ok (.ifCond .ne 11, 3) := by decide +kernel
theorem dX5_owner_26 : decode cX5_owner 26 = .ok (.new 163, 3) := by decide +kernel
theorem dX5_owner_29 : decode cX5_owner 29 = .ok (.dup, 1) := by decide +kernel
theorem dX5_owner_30 : decode cX5_owner 30 = .ok (.invokespecial 165, 3) := by decide +kernel
theorem dX5_owner_33 : decode cX5_owner 33 = .ok (.athrow, 1) := by decide +kernel
theorem dX5_owner_34 : decode cX5_owner 34 = .ok (.aload_n 0, 1) := by decide +kernel
theorem dX5_owner_35 : decode cX5_owner 35 = .ok (.getfield 12, 3) := by decide +kernel
theorem dX5_owner_38 : decode cX5_owner 38 = .ok (.iload 4, 2) := by decide +kernel
theorem dX5_owner_40 : decode cX5_owner 40 = .ok (.invokevirtual 166, 3) := by decide +kernel
theorem dX5_owner_43 : decode cX5_owner 43 = .ok (.ireturn, 1) := by decide +kernel
theorem dX5_part_0 : decode cX5_part 0 = .ok (.aload_n 0, 1) := by decide +kernel
theorem dX5_part_1 : decode cX5_part 1 = .ok (.iload_n 1, 1) := by decide +kernel
theorem dX5_part_2 : decode cX5_part 2 = .ok (.invokevirtual 91, 3) := by decide +kernel
theorem dX5_part_5 : decode cX5_part 5 = .ok (.iload_n 2, 1) := by decide +kernel
theorem dX5_part_6 : decode cX5_part 6 = .ok (.ifCond .lt 15, 3) := by decide +kernel
theorem dX5_part_9 : decode cX5_part 9 = .ok (.iload_n 2, 1) := by decide +kernel
theorem dX5_part_10 : decode cX5_part 10 = .ok (.aload_n 0, 1) := by decide +kernel
theorem dX5_part_11 : decode cX5_part 11 = .ok (.getfield 12, 3) := by decide +kernel
theorem dX5_part_14 : decode cX5_part 14 = .ok (.iload_n 1, 1) := by decide +kernel
theorem dX5_part_15 : decode cX5_part 15 = .ok (.invokevirtual 136, 3) := by decide +kernel
theorem dX5_part_18 : decode cX5_part 18 = .ok (.if_icmp .lt 11, 3) := by decide +kernel
theorem dX5_part_21 : decode cX5_part 21 = .ok (.new 169, 3) := by decide +kernel
theorem dX5_part_24 : decode cX5_part 24 = .ok (.dup, 1) := by decide +kernel
theorem dX5_part_25 : decode cX5_part 25 = .ok (.invokespecial 171, 3) := by decide +kernel
theorem dX5_part_28 : decode cX5_part 28 = .ok (.athrow, 1) := by decide +kernel
theorem dX5_part_29 : decode cX5_part 29 = .ok (.iload_n 3, 1) := by decide +kernel
theorem dX5_part_30 : decode cX5_part 30 = .ok (.ifCond .lt 9, 3) := by decide +kernel
theorem dX5_part_33 : decode cX5_part 33 = .ok (.iload_n 3, 1) := by decide +kernel
theorem dX5_part_34 : decode cX5_part 34 = .ok (.bipush 7, 2) := by decide +kernel
theorem dX5_part_36 : decode cX5_part 36 = .ok (.if_icmp .le 11, 3) := by decide +kernel
theorem dX5_part_39 : decode cX5_part 39 = .ok (.new 106, 3) := by decide +kernel
theorem dX5_part_42 : decode cX5_part 42 = .ok (.dup, 1) := by decide +kernel
theorem dX5_part_43 : decode cX5_part 43 = .ok (.invokespecial 108, 3) := by decide +kernel
theorem dX5_part_46 : decode cX5_part 46 = .ok (.athrow, 1) := by decide +kernel
theorem dX5_part_47 : decode cX5_part 47 = .ok (.aload_n 0, 1) := by decide +kernel
theorem dX5_part_48 : decode cX5_part 48 = .ok (.getfield 12, 3) := by decide +kernel
theorem dX5_part_51 : decode cX5_part 51 = .ok (.iload_n 1, 1) := by decide +kernel
theorem dX5_part_52 : decode cX5_part 52 = .ok (.iload_n 2, 1) := by decide +kernel
theorem dX5_part_53 : decode cX5_part 53 = .ok (.iload_n 3, 1) := by decide +kernel
theorem dX5_part_54 : decode cX5_part 54 = .ok (.invokevirtual 172, 3) := by decide +kernel
theorem dX5_part_57 : decode cX5_part 57 = .ok (.ireturn, 1) := by decide +kernel
theorem dX5_locate_0 : decode cX5_locate 0 = .ok (.aload_n 0, 1) := by decide +kernel
theorem dX5_locate_1 : decode cX5_locate 1 = .ok (.iload_n 1, 1) := by decide +kernel
theorem dX5_locate_2 : decode cX5_locate 2 = .ok (.invokevirtual 91, 3) := by decide +kernel
theorem dX5_locate_5 : decode cX5_locate 5 = .ok (.iload_n 2, 1) := by decide +kernel
theorem dX5_locate_6 : decode cX5_locate 6 = .ok (.ifCond .lt 16, 3) := by decide +kernel
theorem dX5_locate_9 : decode cX5_locate 9 = .ok (.iload_n 2, 1) := by decide +kernel
theorem dX5_locate_10 : decode cX5_locate 10 = .ok (.aload_n 0, 1) := by decide +kernel
theorem dX5_locate_11 : decode cX5_locate 11 = .ok (.getfield 20, 3) := by decide +kernel
theorem dX5_locate_14 : decode cX5_locate 14 = .ok (.iload_n 1, 1) := by decide +kernel
theorem dX5_locate_15 : decode cX5_locate 15 = .ok (.iconst 3, 1) := by decide +kernel
theorem dX5_locate_16 : decode cX5_locate 16 = .ok (.invokevirtual 83, 3) := by decide +kernel
theorem dX5_locate_19 : decode cX5_locate 19 = .ok (.if_icmp .lt 11, 3) := by decide +kernel
theorem dX5_locate_22 : decode cX5_locate 22 = .ok (.new 169, 3) := by decide +kernel
theorem dX5_locate_25 : decode cX5_locate 25 = .ok (.dup, 1) := by decide +kernel
theorem dX5_locate_26 : decode cX5_locate 26 = .ok (.invokespecial 171, 3) := by decide +kernel
theorem dX5_locate_29 : decode cX5_locate 29 = .ok (.athrow, 1) := by decide +kernel
theorem dX5_locate_30 : decode cX5_locate 30 = .ok (.aload_n 0, 1) := by decide +kernel
theorem dX5_locate_31 : decode cX5_locate 31 = .ok (.getfield 12, 3) := by decide +kernel
theorem dX5_locate_34 : decode cX5_locate 34 = .ok (.iload_n 1, 1) := by decide +kernel
theorem dX5_locate_35 : decode cX5_locate 35 = .ok (.iload_n 2, 1) := by decide +kernel
theorem dX5_locate_36 : decode cX5_locate 36 = .ok (.invokevirtual 175, 3) := by decide +kernel
theorem dX5_locate_39 : decode cX5_locate 39 = .ok (.istore_n 3, 1) := by decide +kernel
theorem dX5_locate_40 : decode cX5_locate 40 = .ok (.iload_n 3, 1) := by decide +kernel
theorem dX5_locate_41 : decode cX5_locate 41 = .ok (.iconst (-1), 1) := by decide +kernel
theorem dX5_locate_42 : decode cX5_locate 42 = .ok (.if_icmp .ne 11, 3) := by decide +kernel
theorem dX5_locate_45 : decode cX5_locate 45 = .ok (.new 163, 3) := by decide +kernel
theorem dX5_locate_48 : decode cX5_locate 48 = .ok (.dup, 1) := by decide +kernel
theorem dX5_locate_49 : decode cX5_locate 49 = .ok (.invokespecial 165, 3) := by decide +kernel
theorem dX5_locate_52 : decode cX5_locate 52 = .ok (.athrow, 1) := by decide +kernel
theorem dX5_locate_53 : decode cX5_locate 53 = .ok (.sipush 1000, 3) := by decide +kernel
theorem dX5_locate_56 : decode cX5_locate 56 = .ok (.iload_n 3, 1) := by decide +kernel
theorem dX5_locate_57 : decode cX5_locate 57 = .ok (.invokestatic 178, 3) := by decide +kernel
theorem dX5_locate_60 : decode cX5_locate 60 = .ok (.imul, 1) := by decide +kernel
theorem dX5_locate_61 : decode cX5_locate 61 = .ok (.bipush 100, 2) := by decide +kernel
theorem dX5_locate_63 : decode cX5_locate 63 = .ok (.iload_n 3, 1) := by decide +kernel
theorem dX5_locate_64 : decode cX5_locate 64 = .ok (.invokestatic 181, 3) := by decide +kernel
theorem dX5_locate_67 : decode cX5_locate 67 = .ok (.imul, 1) := by decide +kernel
theorem dX5_locate_68 : decode cX5_locate 68 = .ok (.iadd, 1) := by decide +kernel
theorem dX5_locate_69 : decode cX5_locate 69 = .ok (.iload_n 3, 1) := by decide +kernel
theorem dX5_locate_70 : decode cX5_locate 70 = .ok (.invokestatic 184, 3) := by decide +kernel
theorem dX5_locate_73 : decode cX5_locate 73 = .ok (.iadd, 1) := by decide +kernel
theorem dX5_locate_74 : decode cX5_locate 74 = .ok (.ireturn, 1) := by decide +kernel
theorem dX5_ranked_0 : decode cX5_ranked 0 = .ok (.iload_n 1, 1) := by decide +kernel
theorem dX5_ranked_1 : decode cX5_ranked 1 = .ok (.ifCond .lt 14, 3) := by decide +kernel
theorem dX5_ranked_4 : decode cX5_ranked 4 = .ok (.iload_n 1, 1) := by decide +kernel
theorem dX5_ranked_5 : decode cX5_ranked 5 = .ok (.aload_n 0, 1) := by decide +kernel
theorem dX5_ranked_6 : decode cX5_ranked 6 = .ok (.getfield 20, 3) := by decide +kernel
theorem dX5_ranked_9 : decode cX5_ranked 9 = .ok (.invokevirtual 122, 3) := by decide +kernel
theorem dX5_ranked_12 : decode cX5_ranked 12 = .ok (.if_icmp .lt 11, 3) := by decide +kernel
theorem dX5_ranked_15 : decode cX5_ranked 15 = .ok (.new 169, 3) := by decide +kernel
theorem dX5_ranked_18 : decode cX5_ranked 18 = .ok (.dup, 1) := by decide +kernel
theorem dX5_ranked_19 : decode cX5_ranked 19 = .ok (.invokespecial 171, 3) := by decide +kernel
theorem dX5_ranked_22 : decode cX5_ranked 22 = .ok (.athrow, 1) := by decide +kernel
theorem dX5_ranked_23 : decode cX5_ranked 23 = .ok (.aload_n 0, 1) := by decide +kernel
theorem dX5_ranked_24 : decode cX5_ranked 24 = .ok (.getfield 12, 3) := by decide +kernel
theorem dX5_ranked_27 : decode cX5_ranked 27 = .ok (.iload_n 1, 1) := by decide +kernel
theorem dX5_ranked_28 : decode cX5_ranked 28 = .ok (.invokevirtual 187, 3) := by decide +kernel
theorem dX5_ranked_31 : decode cX5_ranked 31 = .ok (.ireturn, 1) := by decide +kernel
theorem dX5_fate_0 : decode cX5_fate 0 = .ok (.aload_n 0, 1) := by decide +kernel
theorem dX5_fate_1 : decode cX5_fate 1 = .ok (.iload_n 1, 1) := by decide +kernel
theorem dX5_fate_2 : decode cX5_fate 2 = .ok (.invokevirtual 91, 3) := by decide +kernel
theorem dX5_fate_5 : decode cX5_fate 5 = .ok (.aload_n 0, 1) := by decide +kernel
theorem dX5_fate_6 : decode cX5_fate 6 = .ok (.getfield 12, 3) := by decide +kernel
theorem dX5_fate_9 : decode cX5_fate 9 = .ok (.iload_n 1, 1) := by decide +kernel
theorem dX5_fate_10 : decode cX5_fate 10 = .ok (.invokevirtual 190, 3) := by decide +kernel
theorem dX5_fate_13 : decode cX5_fate 13 = .ok (.ifCond .eq 5, 3) := by decide +kernel
theorem dX5_fate_16 : decode cX5_fate 16 = .ok (.iconst 3, 1) := by decide +kernel
theorem dX5_fate_17 : decode cX5_fate 17 = .ok (.ireturn, 1) := by decide +kernel
theorem dX5_fate_18 : decode cX5_fate 18 = .ok (.aload_n 0, 1) := by decide +kernel
theorem dX5_fate_19 : decode cX5_fate 19 = .ok (.getfield 12, 3) := by decide +kernel
theorem dX5_fate_22 : decode cX5_fate 22 = .ok (.iload_n 1, 1) := by decide +kernel
theorem dX5_fate_23 : decode cX5_fate 23 = .ok (.invokevirtual 193, 3) := by decide +kernel
theorem dX5_fate_26 : decode cX5_fate 26 = .ok (.ifCond .eq 5, 3) := by decide +kernel
theorem dX5_fate_29 : decode cX5_fate 29 = .ok (.iconst 2, 1) := by decide +kernel
theorem dX5_fate_30 : decode cX5_fate 30 = .ok (.ireturn, 1) := by decide +kernel
theorem dX5_fate_31 : decode cX5_fate 31 = .ok (.aload_n 0, 1) := by decide +kernel
theorem dX5_fate_32 : decode cX5_fate 32 = .ok (.getfield 12, 3) := by decide +kernel
theorem dX5_fate_35 : decode cX5_fate 35 = .ok (.iload_n 1, 1) := by decide +kernel
theorem dX5_fate_36 : decode cX5_fate 36 = .ok (.invokevirtual 142, 3) := by decide +kernel
theorem dX5_fate_39 : decode cX5_fate 39 = .ok (.ifCond .le 7, 3) := by decide +kernel
theorem dX5_fate_42 : decode cX5_fate 42 = .ok (.iconst 1, 1) := by decide +kernel
theorem dX5_fate_43 : decode cX5_fate 43 = .ok (.goto 4, 3) := by decide +kernel
theorem dX5_fate_46 : decode cX5_fate 46 = .ok (.iconst 0, 1) := by decide +kernel
theorem dX5_fate_47 : decode cX5_fate 47 = .ok (.ireturn, 1) := by decide +kernel
theorem dX5_blamed_0 : decode cX5_blamed 0 = .ok (.aload_n 0, 1) := by decide +kernel
theorem dX5_blamed_1 : decode cX5_blamed 1 = .ok (.iload_n 1, 1) := by decide +kernel
theorem dX5_blamed_2 : decode cX5_blamed 2 = .ok (.invokevirtual 91, 3) := by decide +kernel
theorem dX5_blamed_5 : decode cX5_blamed 5 = .ok (.aload_n 0, 1) := by decide +kernel
theorem dX5_blamed_6 : decode cX5_blamed 6 = .ok (.getfield 12, 3) := by decide +kernel
theorem dX5_blamed_9 : decode cX5_blamed 9 = .ok (.iload_n 1, 1) := by decide +kernel
theorem dX5_blamed_10 : decode cX5_blamed 10 = .ok (.invokevirtual 196, 3) := by decide +kernel
theorem dX5_blamed_13 : decode cX5_blamed 13 = .ok (.ifCond .eq 11, 3) := by decide +kernel
theorem dX5_blamed_16 : decode cX5_blamed 16 = .ok (.new 163, 3) := by decide +kernel
theorem dX5_blamed_19 : decode cX5_blamed 19 = .ok (.dup, 1) := by decide +kernel
theorem dX5_blamed_20 : decode cX5_blamed 20 = .ok (.invokespecial 165, 3) := by decide +kernel
theorem dX5_blamed_23 : decode cX5_blamed 23 = .ok (.athrow, 1) := by decide +kernel
theorem dX5_blamed_24 : decode cX5_blamed 24 = .ok (.aload_n 0, 1) := by decide +kernel
theorem dX5_blamed_25 : decode cX5_blamed 25 = .ok (.getfield 12, 3) := by decide +kernel
theorem dX5_blamed_28 : decode cX5_blamed 28 = .ok (.iload_n 1, 1) := by decide +kernel
theorem dX5_blamed_29 : decode cX5_blamed 29 = .ok (.invokevirtual 129, 3) := by decide +kernel
theorem dX5_blamed_32 : decode cX5_blamed 32 = .ok (.iconst 1, 1) := by decide +kernel
theorem dX5_blamed_33 : decode cX5_blamed 33 = .ok (.isub, 1) := by decide +kernel
theorem dX5_blamed_34 : decode cX5_blamed 34 = .ok (.istore_n 2, 1) := by decide +kernel
theorem dX5_blamed_35 : decode cX5_blamed 35 = .ok (.iload_n 2, 1) := by decide +kernel
theorem dX5_blamed_36 : decode cX5_blamed 36 = .ok (.ifCond .lt 57, 3) := by decide +kernel
theorem dX5_blamed_39 : decode cX5_blamed 39 = .ok (.aload_n 0, 1) := by decide +kernel
theorem dX5_blamed_40 : decode cX5_blamed 40 = .ok (.getfield 12, 3) := by decide +kernel
theorem dX5_blamed_43 : decode cX5_blamed 43 = .ok (.iload_n 2, 1) := by decide +kernel
theorem dX5_blamed_44 : decode cX5_blamed 44 = .ok (.invokevirtual 187, 3) := by decide +kernel
theorem dX5_blamed_47 : decode cX5_blamed 47 = .ok (.istore_n 3, 1) := by decide +kernel
theorem dX5_blamed_48 : decode cX5_blamed 48 = .ok (.aload_n 0, 1) := by decide +kernel
theorem dX5_blamed_49 : decode cX5_blamed 49 = .ok (.getfield 24, 3) := by decide +kernel
theorem dX5_blamed_52 : decode cX5_blamed 52 = .ok (.aload_n 0, 1) := by decide +kernel
theorem dX5_blamed_53 : decode cX5_blamed 53 = .ok (.getfield 20, 3) := by decide +kernel
theorem dX5_blamed_56 : decode cX5_blamed 56 = .ok (.invokevirtual 199, 3) := by decide +kernel
theorem dX5_blamed_59 : decode cX5_blamed 59 = .ok (.aload_n 0, 1) := by decide +kernel
theorem dX5_blamed_60 : decode cX5_blamed 60 = .ok (.getfield 24, 3) := by decide +kernel
theorem dX5_blamed_63 : decode cX5_blamed 63 = .ok (.iload_n 3, 1) := by decide +kernel
theorem dX5_blamed_64 : decode cX5_blamed 64 = .ok (.invokevirtual 116, 3) := by decide +kernel
theorem dX5_blamed_67 : decode cX5_blamed 67 = .ok (.aload_n 0, 1) := by decide +kernel
theorem dX5_blamed_68 : decode cX5_blamed 68 = .ok (.getfield 21, 3) := by decide +kernel
theorem dX5_blamed_71 : decode cX5_blamed 71 = .ok (.invokevirtual 69, 3) := by decide +kernel
theorem dX5_blamed_74 : decode cX5_blamed 74 = .ok (.aload_n 0, 1) := by decide +kernel
theorem dX5_blamed_75 : decode cX5_blamed 75 = .ok (.getfield 21, 3) := by decide +kernel
theorem dX5_blamed_78 : decode cX5_blamed 78 = .ok (.iload_n 1, 1) := by decide +kernel
theorem dX5_blamed_79 : decode cX5_blamed 79 = .ok (.invokevirtual 196, 3) := by decide +kernel
theorem dX5_blamed_82 : decode cX5_blamed 82 = .ok (.ifCond .eq 5, 3) := by decide +kernel
theorem dX5_blamed_85 : decode cX5_blamed 85 = .ok (.iload_n 3, 1) := by decide +kernel
theorem dX5_blamed_86 : decode cX5_blamed 86 = .ok (.ireturn, 1) := by decide +kernel
theorem dX5_blamed_87 : decode cX5_blamed 87 = .ok (.iinc 2 (-1), 3) := by decide +kernel
theorem dX5_blamed_90 : decode cX5_blamed 90 = .ok (.goto (-55), 3) := by decide +kernel
theorem dX5_blamed_93 : decode cX5_blamed 93 = .ok (.new 163, 3) := by decide +kernel
theorem dX5_blamed_96 : decode cX5_blamed 96 = .ok (.dup, 1) := by decide +kernel
theorem dX5_blamed_97 : decode cX5_blamed 97 = .ok (.invokespecial 165, 3) := by decide +kernel
theorem dX5_blamed_100 : decode cX5_blamed 100 = .ok (.athrow, 1) := by decide +kernel
theorem dX5_linesIf_0 : decode cX5_linesIf 0 = .ok (.aload_n 0, 1) := by decide +kernel
theorem dX5_linesIf_1 : decode cX5_linesIf 1 = .ok (.iload_n 1, 1) := by decide +kernel
theorem dX5_linesIf_2 : decode cX5_linesIf 2 = .ok (.invokevirtual 91, 3) := by decide +kernel
theorem dX5_linesIf_5 : decode cX5_linesIf 5 = .ok (.aload_n 0, 1) := by decide +kernel
theorem dX5_linesIf_6 : decode cX5_linesIf 6 = .ok (.getfield 24, 3) := by decide +kernel
theorem dX5_linesIf_9 : decode cX5_linesIf 9 = .ok (.aload_n 0, 1) := by decide +kernel
theorem dX5_linesIf_10 : decode cX5_linesIf 10 = .ok (.getfield 20, 3) := by decide +kernel
theorem dX5_linesIf_13 : decode cX5_linesIf 13 = .ok (.invokevirtual 199, 3) := by decide +kernel
theorem dX5_linesIf_16 : decode cX5_linesIf 16 = .ok (.aload_n 0, 1) := by decide +kernel
theorem dX5_linesIf_17 : decode cX5_linesIf 17 = .ok (.getfield 24, 3) := by decide +kernel
theorem dX5_linesIf_20 : decode cX5_linesIf 20 = .ok (.iload_n 1, 1) := by decide +kernel
theorem dX5_linesIf_21 : decode cX5_linesIf 21 = .ok (.iload_n 2, 1) := by decide +kernel
theorem dX5_linesIf_22 : decode cX5_linesIf 22 = .ok (.invokevirtual 98, 3) := by decide +kernel
theorem dX5_linesIf_25 : decode cX5_linesIf 25 = .ok (.aload_n 0, 1) := by decide +kernel
theorem dX5_linesIf_26 : decode cX5_linesIf 26 = .ok (.getfield 21, 3) := by decide +kernel
theorem dX5_linesIf_29 : decode cX5_linesIf 29 = .ok (.invokevirtual 69, 3) := by decide +kernel
theorem dX5_linesIf_32 : decode cX5_linesIf 32 = .ok (.aload_n 0, 1) := by decide +kernel
theorem dX5_linesIf_33 : decode cX5_linesIf 33 = .ok (.getfield 21, 3) := by decide +kernel
theorem dX5_linesIf_36 : decode cX5_linesIf 36 = .ok (.iload_n 1, 1) := by decide +kernel
theorem dX5_linesIf_37 : decode cX5_linesIf 37 = .ok (.invokevirtual 139, 3) := by decide +kernel
theorem dX5_linesIf_40 : decode cX5_linesIf 40 = .ok (.ireturn, 1) := by decide +kernel
theorem dX5_trim_0 : decode cX5_trim 0 = .ok (.aload_n 0, 1) := by decide +kernel
theorem dX5_trim_1 : decode cX5_trim 1 = .ok (.iload_n 1, 1) := by decide +kernel
theorem dX5_trim_2 : decode cX5_trim 2 = .ok (.invokevirtual 91, 3) := by decide +kernel
theorem dX5_trim_5 : decode cX5_trim 5 = .ok (.aload_n 0, 1) := by decide +kernel
theorem dX5_trim_6 : decode cX5_trim 6 = .ok (.getfield 12, 3) := by decide +kernel
theorem dX5_trim_9 : decode cX5_trim 9 = .ok (.iload_n 1, 1) := by decide +kernel
theorem dX5_trim_10 : decode cX5_trim 10 = .ok (.invokevirtual 190, 3) := by decide +kernel
theorem dX5_trim_13 : decode cX5_trim 13 = .ok (.ifCond .eq 11, 3) := by decide +kernel
theorem dX5_trim_16 : decode cX5_trim 16 = .ok (.new 163, 3) := by decide +kernel
theorem dX5_trim_19 : decode cX5_trim 19 = .ok (.dup, 1) := by decide +kernel
theorem dX5_trim_20 : decode cX5_trim 20 = .ok (.invokespecial 165, 3) := by decide +kernel
theorem dX5_trim_23 : decode cX5_trim 23 = .ok (.athrow, 1) := by decide +kernel
theorem dX5_trim_24 : decode cX5_trim 24 = .ok (.iconst 0, 1) := by decide +kernel
theorem dX5_trim_25 : decode cX5_trim 25 = .ok (.aload_n 0, 1) := by decide +kernel
theorem dX5_trim_26 : decode cX5_trim 26 = .ok (.getfield 20, 3) := by decide +kernel
theorem dX5_trim_29 : decode cX5_trim 29 = .ok (.iload_n 1, 1) := by decide +kernel
theorem dX5_trim_30 : decode cX5_trim 30 = .ok (.iconst 3, 1) := by decide +kernel
theorem dX5_trim_31 : decode cX5_trim 31 = .ok (.invokevirtual 83, 3) := by decide +kernel
theorem dX5_trim_34 : decode cX5_trim 34 = .ok (.aload_n 0, 1) := by decide +kernel
theorem dX5_trim_35 : decode cX5_trim 35 = .ok (.getfield 12, 3) := by decide +kernel
theorem dX5_trim_38 : decode cX5_trim 38 = .ok (.iload_n 1, 1) := by decide +kernel
theorem dX5_trim_39 : decode cX5_trim 39 = .ok (.invokevirtual 202, 3) := by decide +kernel
theorem dX5_trim_42 : decode cX5_trim 42 = .ok (.isub, 1) := by decide +kernel
theorem dX5_trim_43 : decode cX5_trim 43 = .ok (.invokestatic 205, 3) := by decide +kernel
theorem dX5_trim_46 : decode cX5_trim 46 = .ok (.ireturn, 1) := by decide +kernel
theorem dX5_count_0 : decode cX5_count 0 = .ok (.iload_n 1, 1) := by decide +kernel
theorem dX5_count_1 : decode cX5_count 1 = .ok (.tableswitch 111 0 7 #[47, 55, 63, 71, 79, 87, 95, 103], 47) := by decide +kernel
theorem dX5_count_48 : decode cX5_count 48 = .ok (.aload_n 0, 1) := by decide +kernel
theorem dX5_count_49 : decode cX5_count 49 = .ok (.getfield 20, 3) := by decide +kernel
theorem dX5_count_52 : decode cX5_count 52 = .ok (.invokevirtual 122, 3) := by decide +kernel
theorem dX5_count_55 : decode cX5_count 55 = .ok (.ireturn, 1) := by decide +kernel
theorem dX5_count_56 : decode cX5_count 56 = .ok (.aload_n 0, 1) := by decide +kernel
theorem dX5_count_57 : decode cX5_count 57 = .ok (.getfield 20, 3) := by decide +kernel
theorem dX5_count_60 : decode cX5_count 60 = .ok (.invokevirtual 126, 3) := by decide +kernel
theorem dX5_count_63 : decode cX5_count 63 = .ok (.ireturn, 1) := by decide +kernel
theorem dX5_count_64 : decode cX5_count 64 = .ok (.aload_n 0, 1) := by decide +kernel
theorem dX5_count_65 : decode cX5_count 65 = .ok (.getfield 12, 3) := by decide +kernel
theorem dX5_count_68 : decode cX5_count 68 = .ok (.invokevirtual 210, 3) := by decide +kernel
theorem dX5_count_71 : decode cX5_count 71 = .ok (.ireturn, 1) := by decide +kernel
theorem dX5_count_72 : decode cX5_count 72 = .ok (.aload_n 0, 1) := by decide +kernel
theorem dX5_count_73 : decode cX5_count 73 = .ok (.getfield 12, 3) := by decide +kernel
theorem dX5_count_76 : decode cX5_count 76 = .ok (.invokevirtual 213, 3) := by decide +kernel
theorem dX5_count_79 : decode cX5_count 79 = .ok (.ireturn, 1) := by decide +kernel
theorem dX5_count_80 : decode cX5_count 80 = .ok (.aload_n 0, 1) := by decide +kernel
theorem dX5_count_81 : decode cX5_count 81 = .ok (.getfield 12, 3) := by decide +kernel
theorem dX5_count_84 : decode cX5_count 84 = .ok (.invokevirtual 216, 3) := by decide +kernel
theorem dX5_count_87 : decode cX5_count 87 = .ok (.ireturn, 1) := by decide +kernel
theorem dX5_count_88 : decode cX5_count 88 = .ok (.aload_n 0, 1) := by decide +kernel
theorem dX5_count_89 : decode cX5_count 89 = .ok (.getfield 12, 3) := by decide +kernel
theorem dX5_count_92 : decode cX5_count 92 = .ok (.invokevirtual 219, 3) := by decide +kernel
theorem dX5_count_95 : decode cX5_count 95 = .ok (.ireturn, 1) := by decide +kernel
theorem dX5_count_96 : decode cX5_count 96 = .ok (.aload_n 0, 1) := by decide +kernel
theorem dX5_count_97 : decode cX5_count 97 = .ok (.getfield 12, 3) := by decide +kernel
theorem dX5_count_100 : decode cX5_count 100 = .ok (.invokevirtual 222, 3) := by decide +kernel
theorem dX5_count_103 : decode cX5_count 103 = .ok (.ireturn, 1) := by decide +kernel
theorem dX5_count_104 : decode cX5_count 104 = .ok (.aload_n 0, 1) := by decide +kernel
theorem dX5_count_105 : decode cX5_count 105 = .ok (.getfield 20, 3) := by decide +kernel
theorem dX5_count_108 : decode cX5_count 108 = .ok (.invokevirtual 225, 3) := by decide +kernel
theorem dX5_count_111 : decode cX5_count 111 = .ok (.ireturn, 1) := by decide +kernel
theorem dX5_count_112 : decode cX5_count 112 = .ok (.new 106, 3) := by decide +kernel
theorem dX5_count_115 : decode cX5_count 115 = .ok (.dup, 1) := by decide +kernel
theorem dX5_count_116 : decode cX5_count 116 = .ok (.invokespecial 108, 3) := by decide +kernel
theorem dX5_count_119 : decode cX5_count 119 = .ok (.athrow, 1) := by decide +kernel
theorem dX5_cellCount_0 : decode cX5_cellCount 0 = .ok (.iload_n 1, 1) := by decide +kernel
theorem dX5_cellCount_1 : decode cX5_cellCount 1 = .ok (.invokestatic 228, 3) := by decide +kernel
theorem dX5_cellCount_4 : decode cX5_cellCount 4 = .ok (.iload_n 2, 1) := by decide +kernel
theorem dX5_cellCount_5 : decode cX5_cellCount 5 = .ok (.ifCond .lt 9, 3) := by decide +kernel
theorem dX5_cellCount_8 : decode cX5_cellCount 8 = .ok (.iload_n 2, 1) := by decide +kernel
theorem dX5_cellCount_9 : decode cX5_cellCount 9 = .ok (.bipush 8, 2) := by decide +kernel
theorem dX5_cellCount_11 : decode cX5_cellCount 11 = .ok (.if_icmp .le 11, 3) := by decide +kernel
theorem dX5_cellCount_14 : decode cX5_cellCount 14 = .ok (.new 106, 3) := by decide +kernel
theorem dX5_cellCount_17 : decode cX5_cellCount 17 = .ok (.dup, 1) := by decide +kernel
theorem dX5_cellCount_18 : decode cX5_cellCount 18 = .ok (.invokespecial 108, 3) := by decide +kernel
theorem dX5_cellCount_21 : decode cX5_cellCount 21 = .ok (.athrow, 1) := by decide +kernel
theorem dX5_cellCount_22 : decode cX5_cellCount 22 = .ok (.aload_n 0, 1) := by decide +kernel
theorem dX5_cellCount_23 : decode cX5_cellCount 23 = .ok (.getfield 12, 3) := by decide +kernel
theorem dX5_cellCount_26 : decode cX5_cellCount 26 = .ok (.iload_n 1, 1) := by decide +kernel
theorem dX5_cellCount_27 : decode cX5_cellCount 27 = .ok (.iload_n 2, 1) := by decide +kernel
theorem dX5_cellCount_28 : decode cX5_cellCount 28 = .ok (.invokevirtual 231, 3) := by decide +kernel
theorem dX5_cellCount_31 : decode cX5_cellCount 31 = .ok (.ireturn, 1) := by decide +kernel
theorem dX5_fill_0 : decode cX5_fill 0 = .ok (.iload_n 1, 1) := by decide +kernel
theorem dX5_fill_1 : decode cX5_fill 1 = .ok (.invokestatic 228, 3) := by decide +kernel
theorem dX5_fill_4 : decode cX5_fill 4 = .ok (.iconst 0, 1) := by decide +kernel
theorem dX5_fill_5 : decode cX5_fill 5 = .ok (.istore_n 2, 1) := by decide +kernel
theorem dX5_fill_6 : decode cX5_fill 6 = .ok (.iconst 0, 1) := by decide +kernel
theorem dX5_fill_7 : decode cX5_fill 7 = .ok (.istore_n 3, 1) := by decide +kernel
theorem dX5_fill_8 : decode cX5_fill 8 = .ok (.iload_n 3, 1) := by decide +kernel
theorem dX5_fill_9 : decode cX5_fill 9 = .ok (.iconst 5, 1) := by decide +kernel
theorem dX5_fill_10 : decode cX5_fill 10 = .ok (.if_icmp .ge 21, 3) := by decide +kernel
theorem dX5_fill_13 : decode cX5_fill 13 = .ok (.iload_n 2, 1) := by decide +kernel
theorem dX5_fill_14 : decode cX5_fill 14 = .ok (.aload_n 0, 1) := by decide +kernel
theorem dX5_fill_15 : decode cX5_fill 15 = .ok (.getfield 12, 3) := by decide +kernel
theorem dX5_fill_18 : decode cX5_fill 18 = .ok (.iload_n 1, 1) := by decide +kernel
theorem dX5_fill_19 : decode cX5_fill 19 = .ok (.iload_n 3, 1) := by decide +kernel
theorem dX5_fill_20 : decode cX5_fill 20 = .ok (.invokevirtual 234, 3) := by decide +kernel
theorem dX5_fill_23 : decode cX5_fill 23 = .ok (.iadd, 1) := by decide +kernel
theorem dX5_fill_24 : decode cX5_fill 24 = .ok (.istore_n 2, 1) := by decide +kernel
theorem dX5_fill_25 : decode cX5_fill 25 = .ok (.iinc 3 1, 3) := by decide +kernel
theorem dX5_fill_28 : decode cX5_fill 28 = .ok (.goto (-20), 3) := by decide +kernel
theorem dX5_fill_31 : decode cX5_fill 31 = .ok (.iload_n 2, 1) := by decide +kernel
theorem dX5_fill_32 : decode cX5_fill 32 = .ok (.i2f, 1) := by decide +kernel
theorem dX5_fill_33 : decode cX5_fill 33 = .ok (.ldc 237, 2) := by decide +kernel
theorem dX5_fill_35 : decode cX5_fill 35 = .ok (.fdiv, 1) := by decide +kernel
theorem dX5_fill_36 : decode cX5_fill 36 = .ok (.freturn, 1) := by decide +kernel
theorem dX5_unevenness_0 : decode cX5_unevenness 0 = .ok (.iload_n 1, 1) := by decide +kernel
theorem dX5_unevenness_1 : decode cX5_unevenness 1 = .ok (.invokestatic 228, 3) := by decide +kernel
theorem dX5_unevenness_4 : decode cX5_unevenness 4 = .ok (.fconst 0, 1) := by decide +kernel
theorem dX5_unevenness_5 : decode cX5_unevenness 5 = .ok (.fstore_n 2, 1) := by decide +kernel
theorem dX5_unevenness_6 : decode cX5_unevenness 6 = .ok (.iconst 0, 1) := by decide +kernel
theorem dX5_unevenness_7 : decode cX5_unevenness 7 = .ok (.istore_n 3, 1) := by decide +kernel
theorem dX5_unevenness_8 : decode cX5_unevenness 8 = .ok (.iload_n 3, 1) := by decide +kernel
theorem dX5_unevenness_9 : decode cX5_unevenness 9 = .ok (.iconst 5, 1) := by decide +kernel
theorem dX5_unevenness_10 : decode cX5_unevenness 10 = .ok (.if_icmp .ge 18, 3) := by decide +kernel
theorem dX5_unevenness_13 : decode cX5_unevenness 13 = .ok (.fload_n 2, 1) := by decide +kernel
theorem dX5_unevenness_14 : decode cX5_unevenness 14 = .ok (.aload_n 0, 1) := by decide +kernel
theorem dX5_unevenness_15 : decode cX5_unevenness 15 = .ok (.iload_n 1, 1) := by decide +kernel
theorem dX5_unevenness_16 : decode cX5_unevenness 16 = .ok (.iload_n 3, 1) := by decide +kernel
theorem dX5_unevenness_17 : decode cX5_unevenness 17 = .ok (.invokevirtual 238, 3) := by decide +kernel
theorem dX5_unevenness_20 : decode cX5_unevenness 20 = .ok (.fadd, 1) := by decide +kernel
theorem dX5_unevenness_21 : decode cX5_unevenness 21 = .ok (.fstore_n 2, 1) := by decide +kernel
theorem dX5_unevenness_22 : decode cX5_unevenness 22 = .ok (.iinc 3 1, 3) := by decide +kernel
theorem dX5_unevenness_25 : decode cX5_unevenness 25 = .ok (.goto (-17), 3) := by decide +kernel
theorem dX5_unevenness_28 : decode cX5_unevenness 28 = .ok (.fload_n 2, 1) := by decide +kernel
theorem dX5_unevenness_29 : decode cX5_unevenness 29 = .ok (.ldc 242, 2) := by decide +kernel
theorem dX5_unevenness_31 : decode cX5_unevenness 31 = .ok (.fdiv, 1) := by decide +kernel
theorem dX5_unevenness_32 : decode cX5_unevenness 32 = .ok (.fstore_n 3, 1) := by decide +kernel
theorem dX5_unevenness_33 : decode cX5_unevenness 33 = .ok (.fconst 0, 1) := by decide +kernel
theorem dX5_unevenness_34 : decode cX5_unevenness 34 = .ok (.fstore 4, 2) := by decide +kernel
theorem dX5_unevenness_36 : decode cX5_unevenness 36 = .ok (.iconst 0, 1) := by decide +kernel
theorem dX5_unevenness_37 : decode cX5_unevenness 37 = .ok (.istore 5, 2) := by decide +kernel
theorem dX5_unevenness_39 : decode cX5_unevenness 39 = .ok (.iload 5, 2) := by decide +kernel
theorem dX5_unevenness_41 : decode cX5_unevenness 41 = .ok (.iconst 5, 1) := by decide +kernel
theorem dX5_unevenness_42 : decode cX5_unevenness 42 = .ok (.if_icmp .ge 30, 3) := by decide +kernel
theorem dX5_unevenness_45 : decode cX5_unevenness 45 = .ok (.aload_n 0, 1) := by decide +kernel
theorem dX5_unevenness_46 : decode cX5_unevenness 46 = .ok (.iload_n 1, 1) := by decide +kernel
theorem dX5_unevenness_47 : decode cX5_unevenness 47 = .ok (.iload 5, 2) := by decide +kernel
theorem dX5_unevenness_49 : decode cX5_unevenness 49 = .ok (.invokevirtual 238, 3) := by decide +kernel
theorem dX5_unevenness_52 : decode cX5_unevenness 52 = .ok (.fload_n 3, 1) := by decide +kernel
theorem dX5_unevenness_53 : decode cX5_unevenness 53 = .ok (.fsub, 1) := by decide +kernel
theorem dX5_unevenness_54 : decode cX5_unevenness 54 = .ok (.fstore 6, 2) := by decide +kernel
theorem dX5_unevenness_56 : decode cX5_unevenness 56 = .ok (.fload 4, 2) := by decide +kernel
theorem dX5_unevenness_58 : decode cX5_unevenness 58 = .ok (.fload 6, 2) := by decide +kernel
theorem dX5_unevenness_60 : decode cX5_unevenness 60 = .ok (.fload 6, 2) := by decide +kernel
theorem dX5_unevenness_62 : decode cX5_unevenness 62 = .ok (.fmul, 1) := by decide +kernel
theorem dX5_unevenness_63 : decode cX5_unevenness 63 = .ok (.fadd, 1) := by decide +kernel
theorem dX5_unevenness_64 : decode cX5_unevenness 64 = .ok (.fstore 4, 2) := by decide +kernel
theorem dX5_unevenness_66 : decode cX5_unevenness 66 = .ok (.iinc 5 1, 3) := by decide +kernel
theorem dX5_unevenness_69 : decode cX5_unevenness 69 = .ok (.goto (-30), 3) := by decide +kernel
theorem dX5_unevenness_72 : decode cX5_unevenness 72 = .ok (.fload 4, 2) := by decide +kernel
theorem dX5_unevenness_74 : decode cX5_unevenness 74 = .ok (.f2d, 1) := by decide +kernel
theorem dX5_unevenness_75 : decode cX5_unevenness 75 = .ok (.ldc2_w 243, 3) := by decide +kernel
theorem dX5_unevenness_78 : decode cX5_unevenness 78 = .ok (.ddiv, 1) := by decide +kernel
theorem dX5_unevenness_79 : decode cX5_unevenness 79 = .ok (.dreturn, 1) := by decide +kernel
theorem dX5_columnFill_0 : decode cX5_columnFill 0 = .ok (.aload_n 0, 1) := by decide +kernel
theorem dX5_columnFill_1 : decode cX5_columnFill 1 = .ok (.getfield 12, 3) := by decide +kernel
theorem dX5_columnFill_4 : decode cX5_columnFill 4 = .ok (.iload_n 1, 1) := by decide +kernel
theorem dX5_columnFill_5 : decode cX5_columnFill 5 = .ok (.iload_n 2, 1) := by decide +kernel
theorem dX5_columnFill_6 : decode cX5_columnFill 6 = .ok (.invokevirtual 234, 3) := by decide +kernel
theorem dX5_columnFill_9 : decode cX5_columnFill 9 = .ok (.i2f, 1) := by decide +kernel
theorem dX5_columnFill_10 : decode cX5_columnFill 10 = .ok (.ldc 245, 2) := by decide +kernel
theorem dX5_columnFill_12 : decode cX5_columnFill 12 = .ok (.fdiv, 1) := by decide +kernel
theorem dX5_columnFill_13 : decode cX5_columnFill 13 = .ok (.freturn, 1) := by decide +kernel
theorem dX5_isSound_0 : decode cX5_isSound 0 = .ok (.aload_n 0, 1) := by decide +kernel
theorem dX5_isSound_1 : decode cX5_isSound 1 = .ok (.getfield 12, 3) := by decide +kernel
theorem dX5_isSound_4 : decode cX5_isSound 4 = .ok (.invokevirtual 246, 3) := by decide +kernel
theorem dX5_isSound_7 : decode cX5_isSound 7 = .ok (.aload_n 0, 1) := by decide +kernel
theorem dX5_isSound_8 : decode cX5_isSound 8 = .ok (.getfield 20, 3) := by decide +kernel
theorem dX5_isSound_11 : decode cX5_isSound 11 = .ok (.invokevirtual 249, 3) := by decide +kernel
theorem dX5_isSound_14 : decode cX5_isSound 14 = .ok (.iadd, 1) := by decide +kernel
theorem dX5_isSound_15 : decode cX5_isSound 15 = .ok (.aload_n 0, 1) := by decide +kernel
theorem dX5_isSound_16 : decode cX5_isSound 16 = .ok (.getfield 12, 3) := by decide +kernel
theorem dX5_isSound_19 : decode cX5_isSound 19 = .ok (.invokevirtual 252, 3) := by decide +kernel
theorem dX5_isSound_22 : decode cX5_isSound 22 = .ok (.if_icmp .eq 5, 3) := by decide +kernel
theorem dX5_isSound_25 : decode cX5_isSound 25 = .ok (.iconst 0, 1) := by decide +kernel
theorem dX5_isSound_26 : decode cX5_isSound 26 = .ok (.ireturn, 1) := by decide +kernel
theorem dX5_isSound_27 : decode cX5_isSound 27 = .ok (.iconst 0, 1) := by decide +kernel
theorem dX5_isSound_28 : decode cX5_isSound 28 = .ok (.istore_n 1, 1) := by decide +kernel
theorem dX5_isSound_29 : decode cX5_isSound 29 = .ok (.iload_n 1, 1) := by decide +kernel
theorem dX5_isSound_30 : decode cX5_isSound 30 = .ok (.bipush 12, 2) := by decide +kernel
theorem dX5_isSound_32 : decode cX5_isSound 32 = .ok (.if_icmp .ge 33, 3) := by decide +kernel
theorem dX5_isSound_35 : decode cX5_isSound 35 = .ok (.aload_n 0, 1) := by decide +kernel
theorem dX5_isSound_36 : decode cX5_isSound 36 = .ok (.getfield 20, 3) := by decide +kernel
theorem dX5_isSound_39 : decode cX5_isSound 39 = .ok (.iload_n 1, 1) := by decide +kernel
theorem dX5_isSound_40 : decode cX5_isSound 40 = .ok (.invokevirtual 255, 3) := by decide +kernel
theorem dX5_isSound_43 : decode cX5_isSound 43 = .ok (.ifCond .eq 16, 3) := by decide +kernel
theorem dX5_isSound_46 : decode cX5_isSound 46 = .ok (.aload_n 0, 1) := by decide +kernel
theorem dX5_isSound_47 : decode cX5_isSound 47 = .ok (.getfield 12, 3) := by decide +kernel
theorem dX5_isSound_50 : decode cX5_isSound 50 = .ok (.iload_n 1, 1) := by decide +kernel
theorem dX5_isSound_51 : decode cX5_isSound 51 = .ok (.invokevirtual 258, 3) := by decide +kernel
theorem dX5_isSound_54 : decode cX5_isSound 54 = .ok (.ifCond .ne 5, 3) := by decide +kernel
theorem dX5_isSound_57 : decode cX5_isSound 57 = .ok (.iconst 0, 1) := by decide +kernel
theorem dX5_isSound_58 : decode cX5_isSound 58 = .ok (.ireturn, 1) := by decide +kernel
theorem dX5_isSound_59 : decode cX5_isSound 59 = .ok (.iinc 1 1, 3) := by decide +kernel
theorem dX5_isSound_62 : decode cX5_isSound 62 = .ok (.goto (-33), 3) := by decide +kernel
theorem dX5_isSound_65 : decode cX5_isSound 65 = .ok (.iconst 1, 1) := by decide +kernel
theorem dX5_isSound_66 : decode cX5_isSound 66 = .ok (.ireturn, 1) := by decide +kernel
theorem dX5_layDown_0 : decode cX5_layDown 0 = .ok (.iload_n 1, 1) := by decide +kernel
theorem dX5_layDown_1 : decode cX5_layDown 1 = .ok (.iload_n 2, 1) := by decide +kernel
theorem dX5_layDown_2 : decode cX5_layDown 2 = .ok (.invokestatic 261, 3) := by decide +kernel
theorem dX5_layDown_5 : decode cX5_layDown 5 = .ok (.aload_n 0, 1) := by decide +kernel
theorem dX5_layDown_6 : decode cX5_layDown 6 = .ok (.iload_n 3, 1) := by decide +kernel
theorem dX5_layDown_7 : decode cX5_layDown 7 = .ok (.iload 4, 2) := by decide +kernel
theorem dX5_layDown_9 : decode cX5_layDown 9 = .ok (.invokevirtual 112, 3) := by decide +kernel
theorem dX5_layDown_12 : decode cX5_layDown 12 = .ok (.aload_n 0, 1) := by decide +kernel
theorem dX5_layDown_13 : decode cX5_layDown 13 = .ok (.getfield 43, 3) := by decide +kernel
theorem dX5_layDown_16 : decode cX5_layDown 16 = .ok (.iload_n 1, 1) := by decide +kernel
theorem dX5_layDown_17 : decode cX5_layDown 17 = .ok (.iload_n 3, 1) := by decide +kernel
theorem dX5_layDown_18 : decode cX5_layDown 18 = .ok (.invokevirtual 265, 3) := by decide +kernel
theorem dX5_layDown_21 : decode cX5_layDown 21 = .ok (.ifCond .ne 11, 3) := by decide +kernel
theorem dX5_layDown_24 : decode cX5_layDown 24 = .ok (.new 269, 3) := by decide +kernel
theorem dX5_layDown_27 : decode cX5_layDown 27 = .ok (.dup, 1) := by decide +kernel
theorem dX5_layDown_28 : decode cX5_layDown 28 = .ok (.invokespecial 271, 3) := by decide +kernel
theorem dX5_layDown_31 : decode cX5_layDown 31 = .ok (.athrow, 1) := by decide +kernel
theorem dX5_layDown_32 : decode cX5_layDown 32 = .ok (.iload_n 1, 1) := by decide +kernel
theorem dX5_layDown_33 : decode cX5_layDown 33 = .ok (.iconst 4, 1) := by decide +kernel
theorem dX5_layDown_34 : decode cX5_layDown 34 = .ok (.imul, 1) := by decide +kernel
theorem dX5_layDown_35 : decode cX5_layDown 35 = .ok (.iload_n 2, 1) := by decide +kernel
theorem dX5_layDown_36 : decode cX5_layDown 36 = .ok (.iadd, 1) := by decide +kernel
theorem dX5_layDown_37 : decode cX5_layDown 37 = .ok (.istore 5, 2) := by decide +kernel
theorem dX5_layDown_39 : decode cX5_layDown 39 = .ok (.iload_n 3, 1) := by decide +kernel
theorem dX5_layDown_40 : decode cX5_layDown 40 = .ok (.ifCond .eq 21, 3) := by decide +kernel
theorem dX5_layDown_43 : decode cX5_layDown 43 = .ok (.aload_n 0, 1) := by decide +kernel
theorem dX5_layDown_44 : decode cX5_layDown 44 = .ok (.getfield 43, 3) := by decide +kernel
theorem dX5_layDown_47 : decode cX5_layDown 47 = .ok (.iload 5, 2) := by decide +kernel
theorem dX5_layDown_49 : decode cX5_layDown 49 = .ok (.aload_n 0, 1) := by decide +kernel
theorem dX5_layDown_50 : decode cX5_layDown 50 = .ok (.getfield 20, 3) := by decide +kernel
theorem dX5_layDown_53 : decode cX5_layDown 53 = .ok (.iload 4, 2) := by decide +kernel
theorem dX5_layDown_55 : decode cX5_layDown 55 = .ok (.invokevirtual 272, 3) := by decide +kernel
theorem dX5_layDown_58 : decode cX5_layDown 58 = .ok (.goto 18, 3) := by decide +kernel
theorem dX5_layDown_61 : decode cX5_layDown 61 = .ok (.aload_n 0, 1) := by decide +kernel
theorem dX5_layDown_62 : decode cX5_layDown 62 = .ok (.getfield 43, 3) := by decide +kernel
theorem dX5_layDown_65 : decode cX5_layDown 65 = .ok (.iload 5, 2) := by decide +kernel
theorem dX5_layDown_67 : decode cX5_layDown 67 = .ok (.aload_n 0, 1) := by decide +kernel
theorem dX5_layDown_68 : decode cX5_layDown 68 = .ok (.getfield 20, 3) := by decide +kernel
theorem dX5_layDown_71 : decode cX5_layDown 71 = .ok (.iload 4, 2) := by decide +kernel
theorem dX5_layDown_73 : decode cX5_layDown 73 = .ok (.invokevirtual 276, 3) := by decide +kernel
theorem dX5_layDown_76 : decode cX5_layDown 76 = .ok (.aload_n 0, 1) := by decide +kernel
theorem dX5_layDown_77 : decode cX5_layDown 77 = .ok (.getfield 43, 3) := by decide +kernel
theorem dX5_layDown_80 : decode cX5_layDown 80 = .ok (.iload_n 1, 1) := by decide +kernel
theorem dX5_layDown_81 : decode cX5_layDown 81 = .ok (.invokevirtual 279, 3) := by decide +kernel
theorem dX5_layDown_84 : decode cX5_layDown 84 = .ok (.ireturn, 1) := by decide +kernel
theorem dX5_takeUp_0 : decode cX5_takeUp 0 = .ok (.iload_n 1, 1) := by decide +kernel
theorem dX5_takeUp_1 : decode cX5_takeUp 1 = .ok (.iload_n 2, 1) := by decide +kernel
theorem dX5_takeUp_2 : decode cX5_takeUp 2 = .ok (.invokestatic 261, 3) := by decide +kernel
theorem dX5_takeUp_5 : decode cX5_takeUp 5 = .ok (.iload_n 1, 1) := by decide +kernel
theorem dX5_takeUp_6 : decode cX5_takeUp 6 = .ok (.iconst 4, 1) := by decide +kernel
theorem dX5_takeUp_7 : decode cX5_takeUp 7 = .ok (.imul, 1) := by decide +kernel
theorem dX5_takeUp_8 : decode cX5_takeUp 8 = .ok (.iload_n 2, 1) := by decide +kernel
theorem dX5_takeUp_9 : decode cX5_takeUp 9 = .ok (.iadd, 1) := by decide +kernel
theorem dX5_takeUp_10 : decode cX5_takeUp 10 = .ok (.istore_n 3, 1) := by decide +kernel
theorem dX5_takeUp_11 : decode cX5_takeUp 11 = .ok (.aload_n 0, 1) := by decide +kernel
theorem dX5_takeUp_12 : decode cX5_takeUp 12 = .ok (.getfield 43, 3) := by decide +kernel
theorem dX5_takeUp_15 : decode cX5_takeUp 15 = .ok (.iload_n 3, 1) := by decide +kernel
theorem dX5_takeUp_16 : decode cX5_takeUp 16 = .ok (.invokevirtual 282, 3) := by decide +kernel
theorem dX5_takeUp_19 : decode cX5_takeUp 19 = .ok (.ifCond .eq 11, 3) := by decide +kernel
theorem dX5_takeUp_22 : decode cX5_takeUp 22 = .ok (.new 163, 3) := by decide +kernel
theorem dX5_takeUp_25 : decode cX5_takeUp 25 = .ok (.dup, 1) := by decide +kernel
theorem dX5_takeUp_26 : decode cX5_takeUp 26 = .ok (.invokespecial 165, 3) := by decide +kernel
theorem dX5_takeUp_29 : decode cX5_takeUp 29 = .ok (.athrow, 1) := by decide +kernel
theorem dX5_takeUp_30 : decode cX5_takeUp 30 = .ok (.aload_n 0, 1) := by decide +kernel
theorem dX5_takeUp_31 : decode cX5_takeUp 31 = .ok (.getfield 24, 3) := by decide +kernel
theorem dX5_takeUp_34 : decode cX5_takeUp 34 = .ok (.aload_n 0, 1) := by decide +kernel
theorem dX5_takeUp_35 : decode cX5_takeUp 35 = .ok (.getfield 20, 3) := by decide +kernel
theorem dX5_takeUp_38 : decode cX5_takeUp 38 = .ok (.invokevirtual 199, 3) := by decide +kernel
theorem dX5_takeUp_41 : decode cX5_takeUp 41 = .ok (.aload_n 0, 1) := by decide +kernel
theorem dX5_takeUp_42 : decode cX5_takeUp 42 = .ok (.getfield 43, 3) := by decide +kernel
theorem dX5_takeUp_45 : decode cX5_takeUp 45 = .ok (.iload_n 3, 1) := by decide +kernel
theorem dX5_takeUp_46 : decode cX5_takeUp 46 = .ok (.invokevirtual 285, 3) := by decide +kernel
theorem dX5_takeUp_49 : decode cX5_takeUp 49 = .ok (.ifCond .eq 18, 3) := by decide +kernel
theorem dX5_takeUp_52 : decode cX5_takeUp 52 = .ok (.aload_n 0, 1) := by decide +kernel
theorem dX5_takeUp_53 : decode cX5_takeUp 53 = .ok (.getfield 43, 3) := by decide +kernel
theorem dX5_takeUp_56 : decode cX5_takeUp 56 = .ok (.iload_n 3, 1) := by decide +kernel
theorem dX5_takeUp_57 : decode cX5_takeUp 57 = .ok (.aload_n 0, 1) := by decide +kernel
theorem dX5_takeUp_58 : decode cX5_takeUp 58 = .ok (.getfield 24, 3) := by decide +kernel
theorem dX5_takeUp_61 : decode cX5_takeUp 61 = .ok (.invokevirtual 288, 3) := by decide +kernel
theorem dX5_takeUp_64 : decode cX5_takeUp 64 = .ok (.goto 15, 3) := by decide +kernel
theorem dX5_takeUp_67 : decode cX5_takeUp 67 = .ok (.aload_n 0, 1) := by decide +kernel
theorem dX5_takeUp_68 : decode cX5_takeUp 68 = .ok (.getfield 43, 3) := by decide +kernel
theorem dX5_takeUp_71 : decode cX5_takeUp 71 = .ok (.iload_n 3, 1) := by decide +kernel
theorem dX5_takeUp_72 : decode cX5_takeUp 72 = .ok (.aload_n 0, 1) := by decide +kernel
theorem dX5_takeUp_73 : decode cX5_takeUp 73 = .ok (.getfield 24, 3) := by decide +kernel
theorem dX5_takeUp_76 : decode cX5_takeUp 76 = .ok (.invokevirtual 292, 3) := by decide +kernel
theorem dX5_takeUp_79 : decode cX5_takeUp 79 = .ok (.istore 4, 2) := by decide +kernel
theorem dX5_takeUp_81 : decode cX5_takeUp 81 = .ok (.iload 4, 2) := by decide +kernel
theorem dX5_takeUp_83 : decode cX5_takeUp 83 = .ok (.iconst (-1), 1) := by decide +kernel
theorem dX5_takeUp_84 : decode cX5_takeUp 84 = .ok (.if_icmp .ne 11, 3) := by decide +kernel
theorem dX5_takeUp_87 : decode cX5_takeUp 87 = .ok (.new 295, 3) := by decide +kernel
theorem dX5_takeUp_90 : decode cX5_takeUp 90 = .ok (.dup, 1) := by decide +kernel
theorem dX5_takeUp_91 : decode cX5_takeUp 91 = .ok (.invokespecial 297, 3) := by decide +kernel
theorem dX5_takeUp_94 : decode cX5_takeUp 94 = .ok (.athrow, 1) := by decide +kernel
theorem dX5_takeUp_95 : decode cX5_takeUp 95 = .ok (.aload_n 0, 1) := by decide +kernel
theorem dX5_takeUp_96 : decode cX5_takeUp 96 = .ok (.getfield 30, 3) := by decide +kernel
theorem dX5_takeUp_99 : decode cX5_takeUp 99 = .ok (.aload_n 0, 1) := by decide +kernel
theorem dX5_takeUp_100 : decode cX5_takeUp 100 = .ok (.getfield 20, 3) := by decide +kernel
theorem dX5_takeUp_103 : decode cX5_takeUp 103 = .ok (.invokevirtual 62, 3) := by decide +kernel
theorem dX5_takeUp_106 : decode cX5_takeUp 106 = .ok (.aload_n 0, 1) := by decide +kernel
theorem dX5_takeUp_107 : decode cX5_takeUp 107 = .ok (.getfield 20, 3) := by decide +kernel
theorem dX5_takeUp_110 : decode cX5_takeUp 110 = .ok (.aload_n 0, 1) := by decide +kernel
theorem dX5_takeUp_111 : decode cX5_takeUp 111 = .ok (.getfield 24, 3) := by decide +kernel
theorem dX5_takeUp_114 : decode cX5_takeUp 114 = .ok (.invokevirtual 199, 3) := by decide +kernel
theorem dX5_takeUp_117 : decode cX5_takeUp 117 = .ok (.aload_n 0, 1) := by decide +kernel
theorem dX5_takeUp_118 : decode cX5_takeUp 118 = .ok (.getfield 12, 3) := by decide +kernel
theorem dX5_takeUp_121 : decode cX5_takeUp 121 = .ok (.invokevirtual 69, 3) := by decide +kernel
theorem dX5_takeUp_124 : decode cX5_takeUp 124 = .ok (.iload 4, 2) := by decide +kernel
theorem dX5_takeUp_126 : decode cX5_takeUp 126 = .ok (.ireturn, 1) := by decide +kernel
theorem dX5_feed_0 : decode cX5_feed 0 = .ok (.aload_n 0, 1) := by decide +kernel
theorem dX5_feed_1 : decode cX5_feed 1 = .ok (.getfield 50, 3) := by decide +kernel
theorem dX5_feed_4 : decode cX5_feed 4 = .ok (.invokevirtual 298, 3) := by decide +kernel
theorem dX5_feed_7 : decode cX5_feed 7 = .ok (.ifCond .eq 11, 3) := by decide +kernel
theorem dX5_feed_10 : decode cX5_feed 10 = .ok (.new 295, 3) := by decide +kernel
theorem dX5_feed_13 : decode cX5_feed 13 = .ok (.dup, 1) := by decide +kernel
theorem dX5_feed_14 : decode cX5_feed 14 = .ok (.invokespecial 297, 3) := by decide +kernel
theorem dX5_feed_17 : decode cX5_feed 17 = .ok (.athrow, 1) := by decide +kernel
theorem dX5_feed_18 : decode cX5_feed 18 = .ok (.aload_n 0, 1) := by decide +kernel
theorem dX5_feed_19 : decode cX5_feed 19 = .ok (.getfield 50, 3) := by decide +kernel
theorem dX5_feed_22 : decode cX5_feed 22 = .ok (.iload_n 1, 1) := by decide +kernel
theorem dX5_feed_23 : decode cX5_feed 23 = .ok (.invokevirtual 302, 3) := by decide +kernel
theorem dX5_feed_26 : decode cX5_feed 26 = .ok (.ireturn, 1) := by decide +kernel
theorem dX5_perform_0 : decode cX5_perform 0 = .ok (.aload_n 0, 1) := by decide +kernel
theorem dX5_perform_1 : decode cX5_perform 1 = .ok (.getfield 50, 3) := by decide +kernel
theorem dX5_perform_4 : decode cX5_perform 4 = .ok (.invokevirtual 306, 3) := by decide +kernel
theorem dX5_perform_7 : decode cX5_perform 7 = .ok (.istore_n 1, 1) := by decide +kernel
theorem dX5_perform_8 : decode cX5_perform 8 = .ok (.iload_n 1, 1) := by decide +kernel
theorem dX5_perform_9 : decode cX5_perform 9 = .ok (.iconst (-1), 1) := by decide +kernel
theorem dX5_perform_10 : decode cX5_perform 10 = .ok (.if_icmp .eq 8, 3) := by decide +kernel
theorem dX5_perform_13 : decode cX5_perform 13 = .ok (.bipush (-100), 2) := by decide +kernel
theorem dX5_perform_15 : decode cX5_perform 15 = .ok (.iload_n 1, 1) := by decide +kernel
theorem dX5_perform_16 : decode cX5_perform 16 = .ok (.isub, 1) := by decide +kernel
theorem dX5_perform_17 : decode cX5_perform 17 = .ok (.ireturn, 1) := by decide +kernel
theorem dX5_perform_18 : decode cX5_perform 18 = .ok (.aload_n 0, 1) := by decide +kernel
theorem dX5_perform_19 : decode cX5_perform 19 = .ok (.getfield 24, 3) := by decide +kernel
theorem dX5_perform_22 : decode cX5_perform 22 = .ok (.aload_n 0, 1) := by decide +kernel
theorem dX5_perform_23 : decode cX5_perform 23 = .ok (.getfield 20, 3) := by decide +kernel
theorem dX5_perform_26 : decode cX5_perform 26 = .ok (.invokevirtual 199, 3) := by decide +kernel
theorem dX5_perform_29 : decode cX5_perform 29 = .ok (.iconst 0, 1) := by decide +kernel
theorem dX5_perform_30 : decode cX5_perform 30 = .ok (.istore_n 2, 1) := by decide +kernel
theorem dX5_perform_31 : decode cX5_perform 31 = .ok (.iload_n 2, 1) := by decide +kernel
theorem dX5_perform_32 : decode cX5_perform 32 = .ok (.aload_n 0, 1) := by decide +kernel
theorem dX5_perform_33 : decode cX5_perform 33 = .ok (.getfield 50, 3) := by decide +kernel
theorem dX5_perform_36 : decode cX5_perform 36 = .ok (.invokevirtual 309, 3) := by decide +kernel
theorem dX5_perform_39 : decode cX5_perform 39 = .ok (.if_icmp .ge 42, 3) := by decide +kernel
theorem dX5_perform_42 : decode cX5_perform 42 = .ok (.aload_n 0, 1) := by decide +kernel
theorem dX5_perform_43 : decode cX5_perform 43 = .ok (.iload_n 2, 1) := by decide +kernel
theorem dX5_perform_44 : decode cX5_perform 44 = .ok (.invokevirtual 312, 3) := by decide +kernel
theorem dX5_perform_47 : decode cX5_perform 47 = .ok (.istore_n 3, 1) := by decide +kernel
theorem dX5_perform_48 : decode cX5_perform 48 = .ok (.iload_n 3, 1) := by decide +kernel
theorem dX5_perform_49 : decode cX5_perform 49 = .ok (.ifCond .eq 26, 3) := by decide +kernel
theorem dX5_perform_52 : decode cX5_perform 52 = .ok (.aload_n 0, 1) := by decide +kernel
theorem dX5_perform_53 : decode cX5_perform 53 = .ok (.iconst 1, 1) := by decide +kernel
theorem dX5_perform_54 : decode cX5_perform 54 = .ok (.putfield 315, 3) := by decide +kernel
theorem dX5_perform_57 : decode cX5_perform 57 = .ok (.aload_n 0, 1) := by decide +kernel
theorem dX5_perform_58 : decode cX5_perform 58 = .ok (.iload_n 2, 1) := by decide +kernel
theorem dX5_perform_59 : decode cX5_perform 59 = .ok (.putfield 319, 3) := by decide +kernel
theorem dX5_perform_62 : decode cX5_perform 62 = .ok (.aload_n 0, 1) := by decide +kernel
theorem dX5_perform_63 : decode cX5_perform 63 = .ok (.iload_n 3, 1) := by decide +kernel
theorem dX5_perform_64 : decode cX5_perform 64 = .ok (.putfield 323, 3) := by decide +kernel
theorem dX5_perform_67 : decode cX5_perform 67 = .ok (.new 269, 3) := by decide +kernel
theorem dX5_perform_70 : decode cX5_perform 70 = .ok (.dup, 1) := by decide +kernel
theorem dX5_perform_71 : decode cX5_perform 71 = .ok (.invokespecial 271, 3) := by decide +kernel
theorem dX5_perform_74 : decode cX5_perform 74 = .ok (.athrow, 1) := by decide +kernel
theorem dX5_perform_75 : decode cX5_perform 75 = .ok (.iinc 2 1, 3) := by decide +kernel
theorem dX5_perform_78 : decode cX5_perform 78 = .ok (.goto (-47), 3) := by decide +kernel
theorem dX5_perform_81 : decode cX5_perform 81 = .ok (.aload_n 0, 1) := by decide +kernel
theorem dX5_perform_82 : decode cX5_perform 82 = .ok (.getfield 30, 3) := by decide +kernel
theorem dX5_perform_85 : decode cX5_perform 85 = .ok (.aload_n 0, 1) := by decide +kernel
theorem dX5_perform_86 : decode cX5_perform 86 = .ok (.getfield 20, 3) := by decide +kernel
theorem dX5_perform_89 : decode cX5_perform 89 = .ok (.invokevirtual 62, 3) := by decide +kernel
theorem dX5_perform_92 : decode cX5_perform 92 = .ok (.aload_n 0, 1) := by decide +kernel
theorem dX5_perform_93 : decode cX5_perform 93 = .ok (.getfield 20, 3) := by decide +kernel
theorem dX5_perform_96 : decode cX5_perform 96 = .ok (.aload_n 0, 1) := by decide +kernel
theorem dX5_perform_97 : decode cX5_perform 97 = .ok (.getfield 24, 3) := by decide +kernel
theorem dX5_perform_100 : decode cX5_perform 100 = .ok (.invokevirtual 199, 3) := by decide +kernel
theorem dX5_perform_103 : decode cX5_perform 103 = .ok (.aload_n 0, 1) := by decide +kernel
theorem dX5_perform_104 : decode cX5_perform 104 = .ok (.getfield 12, 3) := by decide +kernel
theorem dX5_perform_107 : decode cX5_perform 107 = .ok (.invokevirtual 69, 3) := by decide +kernel
theorem dX5_perform_110 : decode cX5_perform 110 = .ok (.aload_n 0, 1) := by decide +kernel
theorem dX5_perform_111 : decode cX5_perform 111 = .ok (.getfield 50, 3) := by decide +kernel
theorem dX5_perform_114 : decode cX5_perform 114 = .ok (.invokevirtual 309, 3) := by decide +kernel
theorem dX5_perform_117 : decode cX5_perform 117 = .ok (.ireturn, 1) := by decide +kernel
theorem dX5_carryOut_0 : decode cX5_carryOut 0 = .ok (.aload_n 0, 1) := by decide +kernel
theorem dX5_carryOut_1 : decode cX5_carryOut 1 = .ok (.getfield 50, 3) := by decide +kernel
theorem dX5_carryOut_4 : decode cX5_carryOut 4 = .ok (.iload_n 1, 1) := by decide +kernel
theorem dX5_carryOut_5 : decode cX5_carryOut 5 = .ok (.invokevirtual 326, 3) := by decide +kernel
theorem dX5_carryOut_8 : decode cX5_carryOut 8 = .ok (.lookupswitch 54 #[(97, 42), (112, 48), (115, 36)], 36) := by decide +kernel
theorem dX5_carryOut_44 : decode cX5_carryOut 44 = .ok (.aload_n 0, 1) := by decide +kernel
theorem dX5_carryOut_45 : decode cX5_carryOut 45 = .ok (.iload_n 1, 1) := by decide +kernel
theorem dX5_carryOut_46 : decode cX5_carryOut 46 = .ok (.invokevirtual 330, 3) := by decide +kernel
theorem dX5_carryOut_49 : decode cX5_carryOut 49 = .ok (.ireturn, 1) := by decide +kernel
theorem dX5_carryOut_50 : decode cX5_carryOut 50 = .ok (.aload_n 0, 1) := by decide +kernel
theorem dX5_carryOut_51 : decode cX5_carryOut 51 = .ok (.iload_n 1, 1) := by decide +kernel
theorem dX5_carryOut_52 : decode cX5_carryOut 52 = .ok (.invokevirtual 333, 3) := by decide +kernel
theorem dX5_carryOut_55 : decode cX5_carryOut 55 = .ok (.ireturn, 1) := by decide +kernel
theorem dX5_carryOut_56 : decode cX5_carryOut 56 = .ok (.aload_n 0, 1) := by decide +kernel
theorem dX5_carryOut_57 : decode cX5_carryOut 57 = .ok (.iload_n 1, 1) := by decide +kernel
theorem dX5_carryOut_58 : decode cX5_carryOut 58 = .ok (.invokevirtual 336, 3) := by decide +kernel
theorem dX5_carryOut_61 : decode cX5_carryOut 61 = .ok (.ireturn, 1) := by decide +kernel
theorem dX5_carryOut_62 : decode cX5_carryOut 62 = .ok (.aload_n 0, 1) := by decide +kernel
theorem dX5_carryOut_63 : decode cX5_carryOut 63 = .ok (.iload_n 1, 1) := by decide +kernel
theorem dX5_carryOut_64 : decode cX5_carryOut 64 = .ok (.invokevirtual 339, 3) := by decide +kernel
theorem dX5_carryOut_67 : decode cX5_carryOut 67 = .ok (.ireturn, 1) := by decide +kernel
theorem dX5_carryOutStory_0 : decode cX5_carryOutStory 0 = .ok (.aload_n 0, 1) := by decide +kernel
theorem dX5_carryOutStory_1 : decode cX5_carryOutStory 1 = .ok (.getfield 50, 3) := by decide +kernel
theorem dX5_carryOutStory_4 : decode cX5_carryOutStory 4 = .ok (.iload_n 1, 1) := by decide +kernel
theorem dX5_carryOutStory_5 : decode cX5_carryOutStory 5 = .ok (.iconst 0, 1) := by decide +kernel
theorem dX5_carryOutStory_6 : decode cX5_carryOutStory 6 = .ok (.invokevirtual 342, 3) := by decide +kernel
theorem dX5_carryOutStory_9 : decode cX5_carryOutStory 9 = .ok (.istore_n 2, 1) := by decide +kernel
theorem dX5_carryOutStory_10 : decode cX5_carryOutStory 10 = .ok (.aload_n 0, 1) := by decide +kernel
theorem dX5_carryOutStory_11 : decode cX5_carryOutStory 11 = .ok (.getfield 50, 3) := by decide +kernel
theorem dX5_carryOutStory_14 : decode cX5_carryOutStory 14 = .ok (.iload_n 1, 1) := by decide +kernel
theorem dX5_carryOutStory_15 : decode cX5_carryOutStory 15 = .ok (.iconst 1, 1) := by decide +kernel
theorem dX5_carryOutStory_16 : decode cX5_carryOutStory 16 = .ok (.invokevirtual 342, 3) := by decide +kernel
theorem dX5_carryOutStory_19 : decode cX5_carryOutStory 19 = .ok (.istore_n 3, 1) := by decide +kernel
theorem dX5_carryOutStory_20 : decode cX5_carryOutStory 20 = .ok (.aload_n 0, 1) := by decide +kernel
theorem dX5_carryOutStory_21 : decode cX5_carryOutStory 21 = .ok (.getfield 50, 3) := by decide +kernel
theorem dX5_carryOutStory_24 : decode cX5_carryOutStory 24 = .ok (.iload_n 1, 1) := by decide +kernel
theorem dX5_carryOutStory_25 : decode cX5_carryOutStory 25 = .ok (.iconst 2, 1) := by decide +kernel
theorem dX5_carryOutStory_26 : decode cX5_carryOutStory 26 = .ok (.invokevirtual 342, 3) := by decide +kernel
theorem dX5_carryOutStory_29 : decode cX5_carryOutStory 29 = .ok (.istore 4, 2) := by decide +kernel
theorem dX5_carryOutStory_31 : decode cX5_carryOutStory 31 = .ok (.aload_n 0, 1) := by decide +kernel
theorem dX5_carryOutStory_32 : decode cX5_carryOutStory 32 = .ok (.getfield 50, 3) := by decide +kernel
theorem dX5_carryOutStory_35 : decode cX5_carryOutStory 35 = .ok (.iload_n 1, 1) := by decide +kernel
theorem dX5_carryOutStory_36 : decode cX5_carryOutStory 36 = .ok (.iconst 3, 1) := by decide +kernel
theorem dX5_carryOutStory_37 : decode cX5_carryOutStory 37 = .ok (.invokevirtual 342, 3) := by decide +kernel
theorem dX5_carryOutStory_40 : decode cX5_carryOutStory 40 = .ok (.istore 5, 2) := by decide +kernel
theorem dX5_carryOutStory_42 : decode cX5_carryOutStory 42 = .ok (.aload_n 0, 1) := by decide +kernel
theorem dX5_carryOutStory_43 : decode cX5_carryOutStory 43 = .ok (.getfield 50, 3) := by decide +kernel
theorem dX5_carryOutStory_46 : decode cX5_carryOutStory 46 = .ok (.iload_n 1, 1) := by decide +kernel
theorem dX5_carryOutStory_47 : decode cX5_carryOutStory 47 = .ok (.iconst 4, 1) := by decide +kernel
theorem dX5_carryOutStory_48 : decode cX5_carryOutStory 48 = .ok (.invokevirtual 342, 3) := by decide +kernel
theorem dX5_carryOutStory_51 : decode cX5_carryOutStory 51 = .ok (.istore 6, 2) := by decide +kernel
theorem dX5_carryOutStory_53 : decode cX5_carryOutStory 53 = .ok (.aload_n 0, 1) := by decide +kernel
theorem dX5_carryOutStory_54 : decode cX5_carryOutStory 54 = .ok (.getfield 24, 3) := by decide +kernel
theorem dX5_carryOutStory_57 : decode cX5_carryOutStory 57 = .ok (.iload_n 2, 1) := by decide +kernel
theorem dX5_carryOutStory_58 : decode cX5_carryOutStory 58 = .ok (.iload_n 3, 1) := by decide +kernel
theorem dX5_carryOutStory_59 : decode cX5_carryOutStory 59 = .ok (.iload 4, 2) := by decide +kernel
theorem dX5_carryOutStory_61 : decode cX5_carryOutStory 61 = .ok (.iload 5, 2) := by decide +kernel
theorem dX5_carryOutStory_63 : decode cX5_carryOutStory 63 = .ok (.iload 6, 2) := by decide +kernel
theorem dX5_carryOutStory_65 : decode cX5_carryOutStory 65 = .ok (.invokevirtual 72, 3) := by decide +kernel
theorem dX5_carryOutStory_68 : decode cX5_carryOutStory 68 = .ok (.istore 7, 2) := by decide +kernel
theorem dX5_carryOutStory_70 : decode cX5_carryOutStory 70 = .ok (.iload 7, 2) := by decide +kernel
theorem dX5_carryOutStory_72 : decode cX5_carryOutStory 72 = .ok (.ifCond .ne 19, 3) := by decide +kernel
theorem dX5_carryOutStory_75 : decode cX5_carryOutStory 75 = .ok (.aload_n 0, 1) := by decide +kernel
theorem dX5_carryOutStory_76 : decode cX5_carryOutStory 76 = .ok (.getfield 24, 3) := by decide +kernel
theorem dX5_carryOutStory_79 : decode cX5_carryOutStory 79 = .ok (.iload_n 2, 1) := by decide +kernel
theorem dX5_carryOutStory_80 : decode cX5_carryOutStory 80 = .ok (.iload_n 3, 1) := by decide +kernel
theorem dX5_carryOutStory_81 : decode cX5_carryOutStory 81 = .ok (.iload 4, 2) := by decide +kernel
theorem dX5_carryOutStory_83 : decode cX5_carryOutStory 83 = .ok (.iload 5, 2) := by decide +kernel
theorem dX5_carryOutStory_85 : decode cX5_carryOutStory 85 = .ok (.iload 6, 2) := by decide +kernel
theorem dX5_carryOutStory_87 : decode cX5_carryOutStory 87 = .ok (.invokevirtual 76, 3) := by decide +kernel
theorem dX5_carryOutStory_90 : decode cX5_carryOutStory 90 = .ok (.pop, 1) := by decide +kernel
theorem dX5_carryOutStory_91 : decode cX5_carryOutStory 91 = .ok (.iload 7, 2) := by decide +kernel
theorem dX5_carryOutStory_93 : decode cX5_carryOutStory 93 = .ok (.ireturn, 1) := by decide +kernel
theorem dX5_carryOutAdvertisement_0 : decode cX5_carryOutAdvertisement 0 = .ok (.aload_n 0, 1) := by decide +kernel
theorem dX5_carryOutAdvertisement_1 : decode cX5_carryOutAdvertisement 1 = .ok (.getfield 50, 3) := by decide +kernel
theorem dX5_carryOutAdvertisement_4 : decode cX5_carryOutAdvertisement 4 = .ok (.iload_n 1, 1) := by decide +kernel
theorem dX5_carryOutAdvertisement_5 : decode cX5_carryOutAdvertisement 5 = .ok (.iconst 0, 1) := by decide +kernel
theorem dX5_carryOutAdvertisement_6 : decode cX5_carryOutAdvertisement 6 = .ok (.invokevirtual 342, 3) := by decide +kernel
theorem dX5_carryOutAdvertisement_9 : decode cX5_carryOutAdvertisement 9 = .ok (.istore_n 2, 1) := by decide +kernel
theorem dX5_carryOutAdvertisement_10 : decode cX5_carryOutAdvertisement 10 = .ok (.aload_n 0, 1) := by decide +kernel
theorem dX5_carryOutAdvertisement_11 : decode cX5_carryOutAdvertisement 11 = .ok (.getfield 50, 3) := by decide +kernel
theorem dX5_carryOutAdvertisement_14 : decode cX5_carryOutAdvertisement 14 = .ok (.iload_n 1, 1) := by decide +kernel
theorem dX5_carryOutAdvertisement_15 : decode cX5_carryOutAdvertisement 15 = .ok (.iconst 1, 1) := by decide +kernel
theorem dX5_carryOutAdvertisement_16 : decode cX5_carryOutAdvertisement 16 = .ok (.invokevirtual 342, 3) := by decide +kernel
theorem dX5_carryOutAdvertisement_19 : decode cX5_carryOutAdvertisement 19 = .ok (.istore_n 3, 1) := by decide +kernel
theorem dX5_carryOutAdvertisement_20 : decode cX5_carryOutAdvertisement 20 = .ok (.aload_n 0, 1) := by decide +kernel
theorem dX5_carryOutAdvertisement_21 : decode cX5_carryOutAdvertisement 21 = .ok (.getfield 50, 3) := by decide +kernel
theorem dX5_carryOutAdvertisement_24 : decode cX5_carryOutAdvertisement 24 = .ok (.iload_n 1, 1) := by decide +kernel
theorem dX5_carryOutAdvertisement_25 : decode cX5_carryOutAdvertisement 25 = .ok (.iconst 2, 1) := by decide +kernel
theorem dX5_carryOutAdvertisement_26 : decode cX5_carryOutAdvertisement 26 = .ok (.invokevirtual 342, 3) := by decide +kernel
theorem dX5_carryOutAdvertisement_29 : decode cX5_carryOutAdvertisement 29 = .ok (.istore 4, 2) := by decide +kernel
theorem dX5_carryOutAdvertisement_31 : decode cX5_carryOutAdvertisement 31 = .ok (.aload_n 0, 1) := by decide +kernel
theorem dX5_carryOutAdvertisement_32 : decode cX5_carryOutAdvertisement 32 = .ok (.getfield 50, 3) := by decide +kernel
theorem dX5_carryOutAdvertisement_35 : decode cX5_carryOutAdvertisement 35 = .ok (.iload_n 1, 1) := by decide +kernel
theorem dX5_carryOutAdvertisement_36 : decode cX5_carryOutAdvertisement 36 = .ok (.iconst 3, 1) := by decide +kernel
theorem dX5_carryOutAdvertisement_37 : decode cX5_carryOutAdvertisement 37 = .ok (.invokevirtual 342, 3) := by decide +kernel
theorem dX5_carryOutAdvertisement_40 : decode cX5_carryOutAdvertisement 40 = .ok (.istore 5, 2) := by decide +kernel
theorem dX5_carryOutAdvertisement_42 : decode cX5_carryOutAdvertisement 42 = .ok (.aload_n 0, 1) := by decide +kernel
theorem dX5_carryOutAdvertisement_43 : decode cX5_carryOutAdvertisement 43 = .ok (.getfield 50, 3) := by decide +kernel
theorem dX5_carryOutAdvertisement_46 : decode cX5_carryOutAdvertisement 46 = .ok (.iload_n 1, 1) := by decide +kernel
theorem dX5_carryOutAdvertisement_47 : decode cX5_carryOutAdvertisement 47 = .ok (.iconst 4, 1) := by decide +kernel
theorem dX5_carryOutAdvertisement_48 : decode cX5_carryOutAdvertisement 48 = .ok (.invokevirtual 342, 3) := by decide +kernel
theorem dX5_carryOutAdvertisement_51 : decode cX5_carryOutAdvertisement 51 = .ok (.istore 6, 2) := by decide +kernel
theorem dX5_carryOutAdvertisement_53 : decode cX5_carryOutAdvertisement 53 = .ok (.aload_n 0, 1) := by decide +kernel
theorem dX5_carryOutAdvertisement_54 : decode cX5_carryOutAdvertisement 54 = .ok (.getfield 50, 3) := by decide +kernel
theorem dX5_carryOutAdvertisement_57 : decode cX5_carryOutAdvertisement 57 = .ok (.iload_n 1, 1) := by decide +kernel
theorem dX5_carryOutAdvertisement_58 : decode cX5_carryOutAdvertisement 58 = .ok (.iconst 5, 1) := by decide +kernel
theorem dX5_carryOutAdvertisement_59 : decode cX5_carryOutAdvertisement 59 = .ok (.invokevirtual 342, 3) := by decide +kernel
theorem dX5_carryOutAdvertisement_62 : decode cX5_carryOutAdvertisement 62 = .ok (.istore 7, 2) := by decide +kernel
theorem dX5_carryOutAdvertisement_64 : decode cX5_carryOutAdvertisement 64 = .ok (.aload_n 0, 1) := by decide +kernel
theorem dX5_carryOutAdvertisement_65 : decode cX5_carryOutAdvertisement 65 = .ok (.getfield 24, 3) := by decide +kernel
theorem dX5_carryOutAdvertisement_68 : decode cX5_carryOutAdvertisement 68 = .ok (.iload_n 2, 1) := by decide +kernel
theorem dX5_carryOutAdvertisement_69 : decode cX5_carryOutAdvertisement 69 = .ok (.iload_n 3, 1) := by decide +kernel
theorem dX5_carryOutAdvertisement_70 : decode cX5_carryOutAdvertisement 70 = .ok (.iload 4, 2) := by decide +kernel
theorem dX5_carryOutAdvertisement_72 : decode cX5_carryOutAdvertisement 72 = .ok (.iload 5, 2) := by decide +kernel
theorem dX5_carryOutAdvertisement_74 : decode cX5_carryOutAdvertisement 74 = .ok (.iload 6, 2) := by decide +kernel
theorem dX5_carryOutAdvertisement_76 : decode cX5_carryOutAdvertisement 76 = .ok (.iload 7, 2) := by decide +kernel
theorem dX5_carryOutAdvertisement_78 : decode cX5_carryOutAdvertisement 78 = .ok (.invokevirtual 54, 3) := by decide +kernel
theorem dX5_carryOutAdvertisement_81 : decode cX5_carryOutAdvertisement 81 = .ok (.istore 8, 2) := by decide +kernel
theorem dX5_carryOutAdvertisement_83 : decode cX5_carryOutAdvertisement 83 = .ok (.iload 8, 2) := by decide +kernel
theorem dX5_carryOutAdvertisement_85 : decode cX5_carryOutAdvertisement 85 = .ok (.ifCond .ne 21, 3) := by decide +kernel
theorem dX5_carryOutAdvertisement_88 : decode cX5_carryOutAdvertisement 88 = .ok (.aload_n 0, 1) := by decide +kernel
theorem dX5_carryOutAdvertisement_89 : decode cX5_carryOutAdvertisement 89 = .ok (.getfield 24, 3) := by decide +kernel
theorem dX5_carryOutAdvertisement_92 : decode cX5_carryOutAdvertisement 92 = .ok (.iload_n 2, 1) := by decide +kernel
theorem dX5_carryOutAdvertisement_93 : decode cX5_carryOutAdvertisement 93 = .ok (.iload_n 3, 1) := by decide +kernel
theorem dX5_carryOutAdvertisement_94 : decode cX5_carryOutAdvertisement 94 = .ok (.iload 4, 2) := by decide +kernel
theorem dX5_carryOutAdvertisement_96 : decode cX5_carryOutAdvertisement 96 = .ok (.iload 5, 2) := by decide +kernel
theorem dX5_carryOutAdvertisement_98 : decode cX5_carryOutAdvertisement 98 = .ok (.iload 6, 2) := by decide +kernel
theorem dX5_carryOutAdvertisement_100 : decode cX5_carryOutAdvertisement 100 = .ok (.iload 7, 2) := by decide +kernel
theorem dX5_carryOutAdvertisement_102 : decode cX5_carryOutAdvertisement 102 = .ok (.invokevirtual 66, 3) := by decide +kernel
theorem dX5_carryOutAdvertisement_105 : decode cX5_carryOutAdvertisement 105 = .ok (.pop, 1) := by decide +kernel
theorem dX5_carryOutAdvertisement_106 : decode cX5_carryOutAdvertisement 106 = .ok (.iload 8, 2) := by decide +kernel
theorem dX5_carryOutAdvertisement_108 : decode cX5_carryOutAdvertisement 108 = .ok (.ireturn, 1) := by decide +kernel
theorem dX5_carryOutPhoto_0 : decode cX5_carryOutPhoto 0 = .ok (.aload_n 0, 1) := by decide +kernel
theorem dX5_carryOutPhoto_1 : decode cX5_carryOutPhoto 1 = .ok (.getfield 50, 3) := by decide +kernel
theorem dX5_carryOutPhoto_4 : decode cX5_carryOutPhoto 4 = .ok (.iload_n 1, 1) := by decide +kernel
theorem dX5_carryOutPhoto_5 : decode cX5_carryOutPhoto 5 = .ok (.iconst 0, 1) := by decide +kernel
theorem dX5_carryOutPhoto_6 : decode cX5_carryOutPhoto 6 = .ok (.invokevirtual 342, 3) := by decide +kernel
theorem dX5_carryOutPhoto_9 : decode cX5_carryOutPhoto 9 = .ok (.istore_n 2, 1) := by decide +kernel
theorem dX5_carryOutPhoto_10 : decode cX5_carryOutPhoto 10 = .ok (.aload_n 0, 1) := by decide +kernel
theorem dX5_carryOutPhoto_11 : decode cX5_carryOutPhoto 11 = .ok (.getfield 50, 3) := by decide +kernel
theorem dX5_carryOutPhoto_14 : decode cX5_carryOutPhoto 14 = .ok (.iload_n 1, 1) := by decide +kernel
theorem dX5_carryOutPhoto_15 : decode cX5_carryOutPhoto 15 = .ok (.iconst 1, 1) := by decide +kernel
theorem dX5_carryOutPhoto_16 : decode cX5_carryOutPhoto 16 = .ok (.invokevirtual 342, 3) := by decide +kernel
theorem dX5_carryOutPhoto_19 : decode cX5_carryOutPhoto 19 = .ok (.istore_n 3, 1) := by decide +kernel
theorem dX5_carryOutPhoto_20 : decode cX5_carryOutPhoto 20 = .ok (.aload_n 0, 1) := by decide +kernel
theorem dX5_carryOutPhoto_21 : decode cX5_carryOutPhoto 21 = .ok (.getfield 50, 3) := by decide +kernel
theorem dX5_carryOutPhoto_24 : decode cX5_carryOutPhoto 24 = .ok (.iload_n 1, 1) := by decide +kernel
theorem dX5_carryOutPhoto_25 : decode cX5_carryOutPhoto 25 = .ok (.iconst 2, 1) := by decide +kernel
theorem dX5_carryOutPhoto_26 : decode cX5_carryOutPhoto 26 = .ok (.invokevirtual 342, 3) := by decide +kernel
theorem dX5_carryOutPhoto_29 : decode cX5_carryOutPhoto 29 = .ok (.istore 4, 2) := by decide +kernel
theorem dX5_carryOutPhoto_31 : decode cX5_carryOutPhoto 31 = .ok (.aload_n 0, 1) := by decide +kernel
theorem dX5_carryOutPhoto_32 : decode cX5_carryOutPhoto 32 = .ok (.getfield 24, 3) := by decide +kernel
theorem dX5_carryOutPhoto_35 : decode cX5_carryOutPhoto 35 = .ok (.iload_n 2, 1) := by decide +kernel
theorem dX5_carryOutPhoto_36 : decode cX5_carryOutPhoto 36 = .ok (.iload_n 3, 1) := by decide +kernel
theorem dX5_carryOutPhoto_37 : decode cX5_carryOutPhoto 37 = .ok (.iload 4, 2) := by decide +kernel
theorem dX5_carryOutPhoto_39 : decode cX5_carryOutPhoto 39 = .ok (.invokevirtual 79, 3) := by decide +kernel
theorem dX5_carryOutPhoto_42 : decode cX5_carryOutPhoto 42 = .ok (.istore 5, 2) := by decide +kernel
theorem dX5_carryOutPhoto_44 : decode cX5_carryOutPhoto 44 = .ok (.iload 5, 2) := by decide +kernel
theorem dX5_carryOutPhoto_46 : decode cX5_carryOutPhoto 46 = .ok (.ifCond .ne 14, 3) := by decide +kernel
theorem dX5_carryOutPhoto_49 : decode cX5_carryOutPhoto 49 = .ok (.aload_n 0, 1) := by decide +kernel
theorem dX5_carryOutPhoto_50 : decode cX5_carryOutPhoto 50 = .ok (.getfield 24, 3) := by decide +kernel
theorem dX5_carryOutPhoto_53 : decode cX5_carryOutPhoto 53 = .ok (.iload_n 2, 1) := by decide +kernel
theorem dX5_carryOutPhoto_54 : decode cX5_carryOutPhoto 54 = .ok (.iload_n 3, 1) := by decide +kernel
theorem dX5_carryOutPhoto_55 : decode cX5_carryOutPhoto 55 = .ok (.iload 4, 2) := by decide +kernel
theorem dX5_carryOutPhoto_57 : decode cX5_carryOutPhoto 57 = .ok (.invokevirtual 87, 3) := by decide +kernel
theorem dX5_carryOutPhoto_60 : decode cX5_carryOutPhoto 60 = .ok (.iload 5, 2) := by decide +kernel
theorem dX5_carryOutPhoto_62 : decode cX5_carryOutPhoto 62 = .ok (.ireturn, 1) := by decide +kernel
theorem dX5_carryOutLate_0 : decode cX5_carryOutLate 0 = .ok (.aload_n 0, 1) := by decide +kernel
theorem dX5_carryOutLate_1 : decode cX5_carryOutLate 1 = .ok (.getfield 50, 3) := by decide +kernel
theorem dX5_carryOutLate_4 : decode cX5_carryOutLate 4 = .ok (.iload_n 1, 1) := by decide +kernel
theorem dX5_carryOutLate_5 : decode cX5_carryOutLate 5 = .ok (.iconst 0, 1) := by decide +kernel
theorem dX5_carryOutLate_6 : decode cX5_carryOutLate 6 = .ok (.invokevirtual 342, 3) := by decide +kernel
theorem dX5_carryOutLate_9 : decode cX5_carryOutLate 9 = .ok (.istore_n 2, 1) := by decide +kernel
theorem dX5_carryOutLate_10 : decode cX5_carryOutLate 10 = .ok (.aload_n 0, 1) := by decide +kernel
theorem dX5_carryOutLate_11 : decode cX5_carryOutLate 11 = .ok (.getfield 24, 3) := by decide +kernel
theorem dX5_carryOutLate_14 : decode cX5_carryOutLate 14 = .ok (.iload_n 2, 1) := by decide +kernel
theorem dX5_carryOutLate_15 : decode cX5_carryOutLate 15 = .ok (.invokevirtual 255, 3) := by decide +kernel
theorem dX5_carryOutLate_18 : decode cX5_carryOutLate 18 = .ok (.ifCond .ne 5, 3) := by decide +kernel
theorem dX5_carryOutLate_21 : decode cX5_carryOutLate 21 = .ok (.iconst 1, 1) := by decide +kernel
theorem dX5_carryOutLate_22 : decode cX5_carryOutLate 22 = .ok (.ireturn, 1) := by decide +kernel
theorem dX5_carryOutLate_23 : decode cX5_carryOutLate 23 = .ok (.aload_n 0, 1) := by decide +kernel
theorem dX5_carryOutLate_24 : decode cX5_carryOutLate 24 = .ok (.getfield 24, 3) := by decide +kernel
theorem dX5_carryOutLate_27 : decode cX5_carryOutLate 27 = .ok (.iload_n 2, 1) := by decide +kernel
theorem dX5_carryOutLate_28 : decode cX5_carryOutLate 28 = .ok (.aload_n 0, 1) := by decide +kernel
theorem dX5_carryOutLate_29 : decode cX5_carryOutLate 29 = .ok (.getfield 50, 3) := by decide +kernel
theorem dX5_carryOutLate_32 : decode cX5_carryOutLate 32 = .ok (.iload_n 1, 1) := by decide +kernel
theorem dX5_carryOutLate_33 : decode cX5_carryOutLate 33 = .ok (.iconst 1, 1) := by decide +kernel
theorem dX5_carryOutLate_34 : decode cX5_carryOutLate 34 = .ok (.invokevirtual 342, 3) := by decide +kernel
theorem dX5_carryOutLate_37 : decode cX5_carryOutLate 37 = .ok (.ifCond .eq 7, 3) := by decide +kernel
theorem dX5_carryOutLate_40 : decode cX5_carryOutLate 40 = .ok (.iconst 1, 1) := by decide +kernel
theorem dX5_carryOutLate_41 : decode cX5_carryOutLate 41 = .ok (.goto 4, 3) := by decide +kernel
theorem dX5_carryOutLate_44 : decode cX5_carryOutLate 44 = .ok (.iconst 0, 1) := by decide +kernel
theorem dX5_carryOutLate_45 : decode cX5_carryOutLate 45 = .ok (.invokevirtual 98, 3) := by decide +kernel
theorem dX5_carryOutLate_48 : decode cX5_carryOutLate 48 = .ok (.iconst 0, 1) := by decide +kernel
theorem dX5_carryOutLate_49 : decode cX5_carryOutLate 49 = .ok (.ireturn, 1) := by decide +kernel
theorem dX5_report_0 : decode cX5_report 0 = .ok (.aload_n 0, 1) := by decide +kernel
theorem dX5_report_1 : decode cX5_report 1 = .ok (.getfield 315, 3) := by decide +kernel
theorem dX5_report_4 : decode cX5_report 4 = .ok (.ifCond .eq 12, 3) := by decide +kernel
theorem dX5_report_7 : decode cX5_report 7 = .ok (.iload_n 1, 1) := by decide +kernel
theorem dX5_report_8 : decode cX5_report 8 = .ok (.ifCond .lt 8, 3) := by decide +kernel
theorem dX5_report_11 : decode cX5_report 11 = .ok (.iload_n 1, 1) := by decide +kernel
theorem dX5_report_12 : decode cX5_report 12 = .ok (.iconst 1, 1) := by decide +kernel
theorem dX5_report_13 : decode cX5_report 13 = .ok (.if_icmp .le 11, 3) := by decide +kernel
theorem dX5_report_16 : decode cX5_report 16 = .ok (.new 163, 3) := by decide +kernel
theorem dX5_report_19 : decode cX5_report 19 = .ok (.dup, 1) := by decide +kernel
theorem dX5_report_20 : decode cX5_report 20 = .ok (.invokespecial 165, 3) := by decide +kernel
theorem dX5_report_23 : decode cX5_report 23 = .ok (.athrow, 1) := by decide +kernel
theorem dX5_report_24 : decode cX5_report 24 = .ok (.iload_n 2, 1) := by decide +kernel
theorem dX5_report_25 : decode cX5_report 25 = .ok (.ifCond .lt 8, 3) := by decide +kernel
theorem dX5_report_28 : decode cX5_report 28 = .ok (.iload_n 2, 1) := by decide +kernel
theorem dX5_report_29 : decode cX5_report 29 = .ok (.iconst 1, 1) := by decide +kernel
theorem dX5_report_30 : decode cX5_report 30 = .ok (.if_icmp .le 11, 3) := by decide +kernel
theorem dX5_report_33 : decode cX5_report 33 = .ok (.new 106, 3) := by decide +kernel
theorem dX5_report_36 : decode cX5_report 36 = .ok (.dup, 1) := by decide +kernel
theorem dX5_report_37 : decode cX5_report 37 = .ok (.invokespecial 108, 3) := by decide +kernel
theorem dX5_report_40 : decode cX5_report 40 = .ok (.athrow, 1) := by decide +kernel
theorem dX5_report_41 : decode cX5_report 41 = .ok (.iload_n 2, 1) := by decide +kernel
theorem dX5_report_42 : decode cX5_report 42 = .ok (.ifCond .ne 7, 3) := by decide +kernel
theorem dX5_report_45 : decode cX5_report 45 = .ok (.iload_n 1, 1) := by decide +kernel
theorem dX5_report_46 : decode cX5_report 46 = .ok (.iconst 1, 1) := by decide +kernel
theorem dX5_report_47 : decode cX5_report 47 = .ok (.iadd, 1) := by decide +kernel
theorem dX5_report_48 : decode cX5_report 48 = .ok (.ireturn, 1) := by decide +kernel
theorem dX5_report_49 : decode cX5_report 49 = .ok (.iload_n 1, 1) := by decide +kernel
theorem dX5_report_50 : decode cX5_report 50 = .ok (.ifCond .ne 10, 3) := by decide +kernel
theorem dX5_report_53 : decode cX5_report 53 = .ok (.aload_n 0, 1) := by decide +kernel
theorem dX5_report_54 : decode cX5_report 54 = .ok (.getfield 319, 3) := by decide +kernel
theorem dX5_report_57 : decode cX5_report 57 = .ok (.goto 7, 3) := by decide +kernel
theorem dX5_report_60 : decode cX5_report 60 = .ok (.aload_n 0, 1) := by decide +kernel
theorem dX5_report_61 : decode cX5_report 61 = .ok (.getfield 323, 3) := by decide +kernel
theorem dX5_report_64 : decode cX5_report 64 = .ok (.ireturn, 1) := by decide +kernel
theorem dX5_undo_0 : decode cX5_undo 0 = .ok (.aload_n 0, 1) := by decide +kernel
theorem dX5_undo_1 : decode cX5_undo 1 = .ok (.getfield 30, 3) := by decide +kernel
theorem dX5_undo_4 : decode cX5_undo 4 = .ok (.invokevirtual 345, 3) := by decide +kernel
theorem dX5_undo_7 : decode cX5_undo 7 = .ok (.ifCond .eq 11, 3) := by decide +kernel
theorem dX5_undo_10 : decode cX5_undo 10 = .ok (.new 295, 3) := by decide +kernel
theorem dX5_undo_13 : decode cX5_undo 13 = .ok (.dup, 1) := by decide +kernel
theorem dX5_undo_14 : decode cX5_undo 14 = .ok (.invokespecial 297, 3) := by decide +kernel
theorem dX5_undo_17 : decode cX5_undo 17 = .ok (.athrow, 1) := by decide +kernel
theorem dX5_undo_18 : decode cX5_undo 18 = .ok (.aload_n 0, 1) := by decide +kernel
theorem dX5_undo_19 : decode cX5_undo 19 = .ok (.getfield 30, 3) := by decide +kernel
theorem dX5_undo_22 : decode cX5_undo 22 = .ok (.aload_n 0, 1) := by decide +kernel
theorem dX5_undo_23 : decode cX5_undo 23 = .ok (.getfield 20, 3) := by decide +kernel
theorem dX5_undo_26 : decode cX5_undo 26 = .ok (.invokevirtual 348, 3) := by decide +kernel
theorem dX5_undo_29 : decode cX5_undo 29 = .ok (.istore_n 1, 1) := by decide +kernel
theorem dX5_undo_30 : decode cX5_undo 30 = .ok (.aload_n 0, 1) := by decide +kernel
theorem dX5_undo_31 : decode cX5_undo 31 = .ok (.getfield 12, 3) := by decide +kernel
theorem dX5_undo_34 : decode cX5_undo 34 = .ok (.invokevirtual 69, 3) := by decide +kernel
theorem dX5_undo_37 : decode cX5_undo 37 = .ok (.iload_n 1, 1) := by decide +kernel
theorem dX5_undo_38 : decode cX5_undo 38 = .ok (.ireturn, 1) := by decide +kernel
theorem dX5_save_0 : decode cX5_save 0 = .ok (.aload_n 0, 1) := by decide +kernel
theorem dX5_save_1 : decode cX5_save 1 = .ok (.getfield 37, 3) := by decide +kernel
theorem dX5_save_4 : decode cX5_save 4 = .ok (.aload_n 0, 1) := by decide +kernel
theorem dX5_save_5 : decode cX5_save 5 = .ok (.getfield 20, 3) := by decide +kernel
theorem dX5_save_8 : decode cX5_save 8 = .ok (.invokevirtual 199, 3) := by decide +kernel
theorem dX5_save_11 : decode cX5_save 11 = .ok (.aload_n 0, 1) := by decide +kernel
theorem dX5_save_12 : decode cX5_save 12 = .ok (.iconst 1, 1) := by decide +kernel
theorem dX5_save_13 : decode cX5_save 13 = .ok (.putfield 352, 3) := by decide +kernel
theorem dX5_save_16 : decode cX5_save 16 = .ok (.aload_n 0, 1) := by decide +kernel
theorem dX5_save_17 : decode cX5_save 17 = .ok (.getfield 20, 3) := by decide +kernel
theorem dX5_save_20 : decode cX5_save 20 = .ok (.invokevirtual 122, 3) := by decide +kernel
theorem dX5_save_23 : decode cX5_save 23 = .ok (.ireturn, 1) := by decide +kernel
theorem dX5_restore_0 : decode cX5_restore 0 = .ok (.aload_n 0, 1) := by decide +kernel
theorem dX5_restore_1 : decode cX5_restore 1 = .ok (.getfield 352, 3) := by decide +kernel
theorem dX5_restore_4 : decode cX5_restore 4 = .ok (.ifCond .ne 11, 3) := by decide +kernel
theorem dX5_restore_7 : decode cX5_restore 7 = .ok (.new 295, 3) := by decide +kernel
theorem dX5_restore_10 : decode cX5_restore 10 = .ok (.dup, 1) := by decide +kernel
theorem dX5_restore_11 : decode cX5_restore 11 = .ok (.invokespecial 297, 3) := by decide +kernel
theorem dX5_restore_14 : decode cX5_restore 14 = .ok (.athrow, 1) := by decide +kernel
theorem dX5_restore_15 : decode cX5_restore 15 = .ok (.aload_n 0, 1) := by decide +kernel
theorem dX5_restore_16 : decode cX5_restore 16 = .ok (.getfield 20, 3) := by decide +kernel
theorem dX5_restore_19 : decode cX5_restore 19 = .ok (.aload_n 0, 1) := by decide +kernel
theorem dX5_restore_20 : decode cX5_restore 20 = .ok (.getfield 37, 3) := by decide +kernel
theorem dX5_restore_23 : decode cX5_restore 23 = .ok (.invokevirtual 199, 3) := by decide +kernel
theorem dX5_restore_26 : decode cX5_restore 26 = .ok (.aload_n 0, 1) := by decide +kernel
theorem dX5_restore_27 : decode cX5_restore 27 = .ok (.getfield 30, 3) := by decide +kernel
theorem dX5_restore_30 : decode cX5_restore 30 = .ok (.invokevirtual 355, 3) := by decide +kernel
theorem dX5_restore_33 : decode cX5_restore 33 = .ok (.aload_n 0, 1) := by decide +kernel
theorem dX5_restore_34 : decode cX5_restore 34 = .ok (.getfield 12, 3) := by decide +kernel
theorem dX5_restore_37 : decode cX5_restore 37 = .ok (.invokevirtual 69, 3) := by decide +kernel
theorem dX5_restore_40 : decode cX5_restore 40 = .ok (.aload_n 0, 1) := by decide +kernel
theorem dX5_restore_41 : decode cX5_restore 41 = .ok (.getfield 20, 3) := by decide +kernel
theorem dX5_restore_44 : decode cX5_restore 44 = .ok (.invokevirtual 122, 3) := by decide +kernel
theorem dX5_restore_47 : decode cX5_restore 47 = .ok (.ireturn, 1) := by decide +kernel
theorem dX5_refuse_0 : decode cX5_refuse 0 = .ok (.iload_n 0, 1) := by decide +kernel
theorem dX5_refuse_1 : decode cX5_refuse 1 = .ok (.tableswitch 51 1 3 #[27, 35, 43], 27) := by decide +kernel
theorem dX5_refuse_28 : decode cX5_refuse 28 = .ok (.new 169, 3) := by decide +kernel
theorem dX5_refuse_31 : decode cX5_refuse 31 = .ok (.dup, 1) := by decide +kernel
theorem dX5_refuse_32 : decode cX5_refuse 32 = .ok (.invokespecial 171, 3) := by decide +kernel
theorem dX5_refuse_35 : decode cX5_refuse 35 = .ok (.athrow, 1) := by decide +kernel
theorem dX5_refuse_36 : decode cX5_refuse 36 = .ok (.new 106, 3) := by decide +kernel
theorem dX5_refuse_39 : decode cX5_refuse 39 = .ok (.dup, 1) := by decide +kernel
theorem dX5_refuse_40 : decode cX5_refuse 40 = .ok (.invokespecial 108, 3) := by decide +kernel
theorem dX5_refuse_43 : decode cX5_refuse 43 = .ok (.athrow, 1) := by decide +kernel
theorem dX5_refuse_44 : decode cX5_refuse 44 = .ok (.new 295, 3) := by decide +kernel
theorem dX5_refuse_47 : decode cX5_refuse 47 = .ok (.dup, 1) := by decide +kernel
theorem dX5_refuse_48 : decode cX5_refuse 48 = .ok (.invokespecial 297, 3) := by decide +kernel
theorem dX5_refuse_51 : decode cX5_refuse 51 = .ok (.athrow, 1) := by decide +kernel
theorem dX5_refuse_52 : decode cX5_refuse 52 = .ok (.return_, 1) := by decide +kernel
theorem dX5_needStory_0 : decode cX5_needStory 0 = .ok (.aload_n 0, 1) := by decide +kernel
theorem dX5_needStory_1 : decode cX5_needStory 1 = .ok (.getfield 20, 3) := by decide +kernel
theorem dX5_needStory_4 : decode cX5_needStory 4 = .ok (.iload_n 1, 1) := by decide +kernel
theorem dX5_needStory_5 : decode cX5_needStory 5 = .ok (.invokevirtual 255, 3) := by decide +kernel
theorem dX5_needStory_8 : decode cX5_needStory 8 = .ok (.ifCond .ne 11, 3) := by decide +kernel
theorem dX5_needStory_11 : decode cX5_needStory 11 = .ok (.new 169, 3) := by decide +kernel
theorem dX5_needStory_14 : decode cX5_needStory 14 = .ok (.dup, 1) := by decide +kernel
theorem dX5_needStory_15 : decode cX5_needStory 15 = .ok (.invokespecial 171, 3) := by decide +kernel
theorem dX5_needStory_18 : decode cX5_needStory 18 = .ok (.athrow, 1) := by decide +kernel
theorem dX5_needStory_19 : decode cX5_needStory 19 = .ok (.return_, 1) := by decide +kernel
theorem dX5_needAdvertisement_0 : decode cX5_needAdvertisement 0 = .ok (.aload_n 0, 1) := by decide +kernel
theorem dX5_needAdvertisement_1 : decode cX5_needAdvertisement 1 = .ok (.getfield 20, 3) := by decide +kernel
theorem dX5_needAdvertisement_4 : decode cX5_needAdvertisement 4 = .ok (.iload_n 1, 1) := by decide +kernel
theorem dX5_needAdvertisement_5 : decode cX5_needAdvertisement 5 = .ok (.invokevirtual 358, 3) := by decide +kernel
theorem dX5_needAdvertisement_8 : decode cX5_needAdvertisement 8 = .ok (.ifCond .ne 11, 3) := by decide +kernel
theorem dX5_needAdvertisement_11 : decode cX5_needAdvertisement 11 = .ok (.new 169, 3) := by decide +kernel
theorem dX5_needAdvertisement_14 : decode cX5_needAdvertisement 14 = .ok (.dup, 1) := by decide +kernel
theorem dX5_needAdvertisement_15 : decode cX5_needAdvertisement 15 = .ok (.invokespecial 171, 3) := by decide +kernel
theorem dX5_needAdvertisement_18 : decode cX5_needAdvertisement 18 = .ok (.athrow, 1) := by decide +kernel
theorem dX5_needAdvertisement_19 : decode cX5_needAdvertisement 19 = .ok (.return_, 1) := by decide +kernel
theorem dX5_needEntry_0 : decode cX5_needEntry 0 = .ok (.iload_n 1, 1) := by decide +kernel
theorem dX5_needEntry_1 : decode cX5_needEntry 1 = .ok (.ifCond .eq 11, 3) := by decide +kernel
theorem dX5_needEntry_4 : decode cX5_needEntry 4 = .ok (.aload_n 0, 1) := by decide +kernel
theorem dX5_needEntry_5 : decode cX5_needEntry 5 = .ok (.iload_n 2, 1) := by decide +kernel
theorem dX5_needEntry_6 : decode cX5_needEntry 6 = .ok (.invokevirtual 91, 3) := by decide +kernel
theorem dX5_needEntry_9 : decode cX5_needEntry 9 = .ok (.goto 8, 3) := by decide +kernel
theorem dX5_needEntry_12 : decode cX5_needEntry 12 = .ok (.aload_n 0, 1) := by decide +kernel
theorem dX5_needEntry_13 : decode cX5_needEntry 13 = .ok (.iload_n 2, 1) := by decide +kernel
theorem dX5_needEntry_14 : decode cX5_needEntry 14 = .ok (.invokevirtual 145, 3) := by decide +kernel
theorem dX5_needEntry_17 : decode cX5_needEntry 17 = .ok (.return_, 1) := by decide +kernel
theorem dX5_needPage_0 : decode cX5_needPage 0 = .ok (.iload_n 0, 1) := by decide +kernel
theorem dX5_needPage_1 : decode cX5_needPage 1 = .ok (.invokestatic 361, 3) := by decide +kernel
theorem dX5_needPage_4 : decode cX5_needPage 4 = .ok (.ifCond .ne 11, 3) := by decide +kernel
theorem dX5_needPage_7 : decode cX5_needPage 7 = .ok (.new 169, 3) := by decide +kernel
theorem dX5_needPage_10 : decode cX5_needPage 10 = .ok (.dup, 1) := by decide +kernel
theorem dX5_needPage_11 : decode cX5_needPage 11 = .ok (.invokespecial 171, 3) := by decide +kernel
theorem dX5_needPage_14 : decode cX5_needPage 14 = .ok (.athrow, 1) := by decide +kernel
theorem dX5_needPage_15 : decode cX5_needPage 15 = .ok (.return_, 1) := by decide +kernel
theorem dX5_needCell_0 : decode cX5_needCell 0 = .ok (.iload_n 0, 1) := by decide +kernel
theorem dX5_needCell_1 : decode cX5_needCell 1 = .ok (.invokestatic 361, 3) := by decide +kernel
theorem dX5_needCell_4 : decode cX5_needCell 4 = .ok (.ifCond .eq 22, 3) := by decide +kernel
theorem dX5_needCell_7 : decode cX5_needCell 7 = .ok (.iload_n 1, 1) := by decide +kernel
theorem dX5_needCell_8 : decode cX5_needCell 8 = .ok (.ifCond .lt 18, 3) := by decide +kernel
theorem dX5_needCell_11 : decode cX5_needCell 11 = .ok (.iload_n 1, 1) := by decide +kernel
theorem dX5_needCell_12 : decode cX5_needCell 12 = .ok (.iconst 5, 1) := by decide +kernel
theorem dX5_needCell_13 : decode cX5_needCell 13 = .ok (.if_icmp .ge 13, 3) := by decide +kernel
theorem dX5_needCell_16 : decode cX5_needCell 16 = .ok (.iload_n 2, 1) := by decide +kernel
theorem dX5_needCell_17 : decode cX5_needCell 17 = .ok (.ifCond .lt 9, 3) := by decide +kernel
theorem dX5_needCell_20 : decode cX5_needCell 20 = .ok (.iload_n 2, 1) := by decide +kernel
theorem dX5_needCell_21 : decode cX5_needCell 21 = .ok (.bipush 24, 2) := by decide +kernel
theorem dX5_needCell_23 : decode cX5_needCell 23 = .ok (.if_icmp .lt 11, 3) := by decide +kernel
theorem dX5_needCell_26 : decode cX5_needCell 26 = .ok (.new 169, 3) := by decide +kernel
theorem dX5_needCell_29 : decode cX5_needCell 29 = .ok (.dup, 1) := by decide +kernel
theorem dX5_needCell_30 : decode cX5_needCell 30 = .ok (.invokespecial 171, 3) := by decide +kernel
theorem dX5_needCell_33 : decode cX5_needCell 33 = .ok (.athrow, 1) := by decide +kernel
theorem dX5_needCell_34 : decode cX5_needCell 34 = .ok (.return_, 1) := by decide +kernel
theorem dX5_needShelfPlace_0 : decode cX5_needShelfPlace 0 = .ok (.iload_n 0, 1) := by decide +kernel
theorem dX5_needShelfPlace_1 : decode cX5_needShelfPlace 1 = .ok (.ifCond .lt 17, 3) := by decide +kernel
theorem dX5_needShelfPlace_4 : decode cX5_needShelfPlace 4 = .ok (.iload_n 0, 1) := by decide +kernel
theorem dX5_needShelfPlace_5 : decode cX5_needShelfPlace 5 = .ok (.iconst 3, 1) := by decide +kernel
theorem dX5_needShelfPlace_6 : decode cX5_needShelfPlace 6 = .ok (.if_icmp .ge 12, 3) := by decide +kernel
theorem dX5_needShelfPlace_9 : decode cX5_needShelfPlace 9 = .ok (.iload_n 1, 1) := by decide +kernel
theorem dX5_needShelfPlace_10 : decode cX5_needShelfPlace 10 = .ok (.ifCond .lt 8, 3) := by decide +kernel
theorem dX5_needShelfPlace_13 : decode cX5_needShelfPlace 13 = .ok (.iload_n 1, 1) := by decide +kernel
theorem dX5_needShelfPlace_14 : decode cX5_needShelfPlace 14 = .ok (.iconst 4, 1) := by decide +kernel
theorem dX5_needShelfPlace_15 : decode cX5_needShelfPlace 15 = .ok (.if_icmp .lt 11, 3) := by decide +kernel
theorem dX5_needShelfPlace_18 : decode cX5_needShelfPlace 18 = .ok (.new 169, 3) := by decide +kernel
theorem dX5_needShelfPlace_21 : decode cX5_needShelfPlace 21 = .ok (.dup, 1) := by decide +kernel
theorem dX5_needShelfPlace_22 : decode cX5_needShelfPlace 22 = .ok (.invokespecial 171, 3) := by decide +kernel
theorem dX5_needShelfPlace_25 : decode cX5_needShelfPlace 25 = .ok (.athrow, 1) := by decide +kernel
theorem dX5_needShelfPlace_26 : decode cX5_needShelfPlace 26 = .ok (.return_, 1) := by decide +kernel
theorem dX5_isPage_0 : decode cX5_isPage 0 = .ok (.iload_n 0, 1) := by decide +kernel
theorem dX5_isPage_1 : decode cX5_isPage 1 = .ok (.ifCond .lt 12, 3) := by decide +kernel
theorem dX5_isPage_4 : decode cX5_isPage 4 = .ok (.iload_n 0, 1) := by decide +kernel
theorem dX5_isPage_5 : decode cX5_isPage 5 = .ok (.iconst 4, 1) := by decide +kernel
theorem dX5_isPage_6 : decode cX5_isPage 6 = .ok (.if_icmp .ge 7, 3) := by decide +kernel
theorem dX5_isPage_9 : decode cX5_isPage 9 = .ok (.iconst 1, 1) := by decide +kernel
theorem dX5_isPage_10 : decode cX5_isPage 10 = .ok (.goto 4, 3) := by decide +kernel
theorem dX5_isPage_13 : decode cX5_isPage 13 = .ok (.iconst 0, 1) := by decide +kernel
theorem dX5_isPage_14 : decode cX5_isPage 14 = .ok (.ireturn, 1) := by decide +kernel
theorem dX5_isInRange_0 : decode cX5_isInRange 0 = .ok (.iload_n 0, 1) := by decide +kernel
theorem dX5_isInRange_1 : decode cX5_isInRange 1 = .ok (.ifCond .lt 30, 3) := by decide +kernel
theorem dX5_isInRange_4 : decode cX5_isInRange 4 = .ok (.iload_n 0, 1) := by decide +kernel
theorem dX5_isInRange_5 : decode cX5_isInRange 5 = .ok (.iconst 5, 1) := by decide +kernel
theorem dX5_isInRange_6 : decode cX5_isInRange 6 = .ok (.if_icmp .ge 25, 3) := by decide +kernel
theorem dX5_isInRange_9 : decode cX5_isInRange 9 = .ok (.iload_n 1, 1) := by decide +kernel
theorem dX5_isInRange_10 : decode cX5_isInRange 10 = .ok (.getstatic 364, 3) := by decide +kernel
theorem dX5_isInRange_13 : decode cX5_isInRange 13 = .ok (.iload_n 0, 1) := by decide +kernel
theorem dX5_isInRange_14 : decode cX5_isInRange 14 = .ok (.iaload, 1) := by decide +kernel
theorem dX5_isInRange_15 : decode cX5_isInRange 15 = .ok (.if_icmp .lt 16, 3) := by decide +kernel
theorem dX5_isInRange_18 : decode cX5_isInRange 18 = .ok (.iload_n 1, 1) := by decide +kernel
theorem dX5_isInRange_19 : decode cX5_isInRange 19 = .ok (.getstatic 368, 3) := by decide +kernel
theorem dX5_isInRange_22 : decode cX5_isInRange 22 = .ok (.iload_n 0, 1) := by decide +kernel
theorem dX5_isInRange_23 : decode cX5_isInRange 23 = .ok (.iaload, 1) := by decide +kernel
theorem dX5_isInRange_24 : decode cX5_isInRange 24 = .ok (.if_icmp .gt 7, 3) := by decide +kernel
theorem dX5_isInRange_27 : decode cX5_isInRange 27 = .ok (.iconst 1, 1) := by decide +kernel
theorem dX5_isInRange_28 : decode cX5_isInRange 28 = .ok (.goto 4, 3) := by decide +kernel
theorem dX5_isInRange_31 : decode cX5_isInRange 31 = .ok (.iconst 0, 1) := by decide +kernel
theorem dX5_isInRange_32 : decode cX5_isInRange 32 = .ok (.ireturn, 1) := by decide +kernel
theorem dX5_isStoryIndex_0 : decode cX5_isStoryIndex 0 = .ok (.iload_n 0, 1) := by decide +kernel
theorem dX5_isStoryIndex_1 : decode cX5_isStoryIndex 1 = .ok (.ifCond .lt 13, 3) := by decide +kernel
theorem dX5_isStoryIndex_4 : decode cX5_isStoryIndex 4 = .ok (.iload_n 0, 1) := by decide +kernel
theorem dX5_isStoryIndex_5 : decode cX5_isStoryIndex 5 = .ok (.bipush 12, 2) := by decide +kernel
theorem dX5_isStoryIndex_7 : decode cX5_isStoryIndex 7 = .ok (.if_icmp .ge 7, 3) := by decide +kernel
theorem dX5_isStoryIndex_10 : decode cX5_isStoryIndex 10 = .ok (.iconst 1, 1) := by decide +kernel
theorem dX5_isStoryIndex_11 : decode cX5_isStoryIndex 11 = .ok (.goto 4, 3) := by decide +kernel
theorem dX5_isStoryIndex_14 : decode cX5_isStoryIndex 14 = .ok (.iconst 0, 1) := by decide +kernel
theorem dX5_isStoryIndex_15 : decode cX5_isStoryIndex 15 = .ok (.ireturn, 1) := by decide +kernel
theorem dX5_isAdvertisementIndex_0 : decode cX5_isAdvertisementIndex 0 = .ok (.iload_n 0, 1) := by decide +kernel
theorem dX5_isAdvertisementIndex_1 : decode cX5_isAdvertisementIndex 1 = .ok (.ifCond .lt 13, 3) := by decide +kernel
theorem dX5_isAdvertisementIndex_4 : decode cX5_isAdvertisementIndex 4 = .ok (.iload_n 0, 1) := by decide +kernel
theorem dX5_isAdvertisementIndex_5 : decode cX5_isAdvertisementIndex 5 = .ok (.bipush 8, 2) := by decide +kernel
theorem dX5_isAdvertisementIndex_7 : decode cX5_isAdvertisementIndex 7 = .ok (.if_icmp .ge 7, 3) := by decide +kernel
theorem dX5_isAdvertisementIndex_10 : decode cX5_isAdvertisementIndex 10 = .ok (.iconst 1, 1) := by decide +kernel
theorem dX5_isAdvertisementIndex_11 : decode cX5_isAdvertisementIndex 11 = .ok (.goto 4, 3) := by decide +kernel
theorem dX5_isAdvertisementIndex_14 : decode cX5_isAdvertisementIndex 14 = .ok (.iconst 0, 1) := by decide +kernel
theorem dX5_isAdvertisementIndex_15 : decode cX5_isAdvertisementIndex 15 = .ok (.ireturn, 1) := by decide +kernel
theorem dX5_isCellIndex_0 : decode cX5_isCellIndex 0 = .ok (.iload_n 0, 1) := by decide +kernel
theorem dX5_isCellIndex_1 : decode cX5_isCellIndex 1 = .ok (.ifCond .lt 14, 3) := by decide +kernel
theorem dX5_isCellIndex_4 : decode cX5_isCellIndex 4 = .ok (.iload_n 0, 1) := by decide +kernel
theorem dX5_isCellIndex_5 : decode cX5_isCellIndex 5 = .ok (.sipush 480, 3) := by decide +kernel
theorem dX5_isCellIndex_8 : decode cX5_isCellIndex 8 = .ok (.if_icmp .ge 7, 3) := by decide +kernel
theorem dX5_isCellIndex_11 : decode cX5_isCellIndex 11 = .ok (.iconst 1, 1) := by decide +kernel
theorem dX5_isCellIndex_12 : decode cX5_isCellIndex 12 = .ok (.goto 4, 3) := by decide +kernel
theorem dX5_isCellIndex_15 : decode cX5_isCellIndex 15 = .ok (.iconst 0, 1) := by decide +kernel
theorem dX5_isCellIndex_16 : decode cX5_isCellIndex 16 = .ok (.ireturn, 1) := by decide +kernel
theorem dX5_cellIndex_0 : decode cX5_cellIndex 0 = .ok (.iload_n 0, 1) := by decide +kernel
theorem dX5_cellIndex_1 : decode cX5_cellIndex 1 = .ok (.bipush 120, 2) := by decide +kernel
theorem dX5_cellIndex_3 : decode cX5_cellIndex 3 = .ok (.imul, 1) := by decide +kernel
theorem dX5_cellIndex_4 : decode cX5_cellIndex 4 = .ok (.iload_n 2, 1) := by decide +kernel
theorem dX5_cellIndex_5 : decode cX5_cellIndex 5 = .ok (.iconst 5, 1) := by decide +kernel
theorem dX5_cellIndex_6 : decode cX5_cellIndex 6 = .ok (.imul, 1) := by decide +kernel
theorem dX5_cellIndex_7 : decode cX5_cellIndex 7 = .ok (.iadd, 1) := by decide +kernel
theorem dX5_cellIndex_8 : decode cX5_cellIndex 8 = .ok (.iload_n 1, 1) := by decide +kernel
theorem dX5_cellIndex_9 : decode cX5_cellIndex 9 = .ok (.iadd, 1) := by decide +kernel
theorem dX5_cellIndex_10 : decode cX5_cellIndex 10 = .ok (.ireturn, 1) := by decide +kernel
theorem dX5_pageOf_0 : decode cX5_pageOf 0 = .ok (.iload_n 0, 1) := by decide +kernel
theorem dX5_pageOf_1 : decode cX5_pageOf 1 = .ok (.bipush 120, 2) := by decide +kernel
theorem dX5_pageOf_3 : decode cX5_pageOf 3 = .ok (.idiv, 1) := by decide +kernel
theorem dX5_pageOf_4 : decode cX5_pageOf 4 = .ok (.ireturn, 1) := by decide +kernel
theorem dX5_rowOf_0 : decode cX5_rowOf 0 = .ok (.iload_n 0, 1) := by decide +kernel
theorem dX5_rowOf_1 : decode cX5_rowOf 1 = .ok (.bipush 120, 2) := by decide +kernel
theorem dX5_rowOf_3 : decode cX5_rowOf 3 = .ok (.irem, 1) := by decide +kernel
theorem dX5_rowOf_4 : decode cX5_rowOf 4 = .ok (.iconst 5, 1) := by decide +kernel
theorem dX5_rowOf_5 : decode cX5_rowOf 5 = .ok (.idiv, 1) := by decide +kernel
theorem dX5_rowOf_6 : decode cX5_rowOf 6 = .ok (.ireturn, 1) := by decide +kernel
theorem dX5_columnOf_0 : decode cX5_columnOf 0 = .ok (.iload_n 0, 1) := by decide +kernel
theorem dX5_columnOf_1 : decode cX5_columnOf 1 = .ok (.iconst 5, 1) := by decide +kernel
theorem dX5_columnOf_2 : decode cX5_columnOf 2 = .ok (.irem, 1) := by decide +kernel
theorem dX5_columnOf_3 : decode cX5_columnOf 3 = .ok (.ireturn, 1) := by decide +kernel
