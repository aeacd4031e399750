theorem dX0_init_0 : decode cX0_init 0 = .ok (.aload_n 0, 1) := by decide +kernel
theorem dX0_init_1 : decode cX0_init 1 = .ok (.invokespecial 3, 3) := by decide +kernel
theorem dX0_init_4 : decode cX0_init 4 = .ok (.aload_n 0, 1) := by decide +kernel
theorem dX0_init_5 : decode cX0_init 5 = .ok (.iconst 4, 1) := by decide +kernel
theorem dX0_init_6 : decode cX0_init 6 = .ok (.anewarray 9, 3) := by decide +kernel
theorem dX0_init_9 : decode cX0_init 9 = .ok (.putfield 11, 3) := by decide +kernel
theorem dX0_init_12 : decode cX0_init 12 = .ok (.aload_n 0, 1) := by decide +kernel
theorem dX0_init_13 : decode cX0_init 13 = .ok (.new 9, 3) := by decide +kernel
theorem dX0_init_16 : decode cX0_init 16 = .ok (.dup, 1) := by decide +kernel
theorem dX0_init_17 : decode cX0_init 17 = .ok (.iconst 4, 1) := by decide +kernel
theorem dX0_init_18 : decode cX0_init 18 = .ok (.invokespecial 17, 3) := by decide +kernel
theorem dX0_init_21 : decode cX0_init 21 = .ok (.putfield 20, 3) := by decide +kernel
theorem dX0_init_24 : decode cX0_init 24 = .ok (.iconst 0, 1) := by decide +kernel
theorem dX0_init_25 : decode cX0_init 25 = .ok (.istore_n 1, 1) := by decide +kernel
theorem dX0_init_26 : decode cX0_init 26 = .ok (.iload_n 1, 1) := by decide +kernel
theorem dX0_init_27 : decode cX0_init 27 = .ok (.iconst 4, 1) := by decide +kernel
theorem dX0_init_28 : decode cX0_init 28 = .ok (.if_icmp .ge 24, 3) := by decide +kernel
theorem dX0_init_31 : decode cX0_init 31 = .ok (.aload_n 0, 1) := by decide +kernel
theorem dX0_init_32 : decode cX0_init 32 = .ok (.getfield 11, 3) := by decide +kernel
theorem dX0_init_35 : decode cX0_init 35 = .ok (.iload_n 1, 1) := by decide +kernel
theorem dX0_init_36 : decode cX0_init 36 = .ok (.new 9, 3) := by decide +kernel
theorem dX0_init_39 : decode cX0_init 39 = .ok (.dup, 1) := by decide +kernel
theorem dX0_init_40 : decode cX0_init 40 = .ok (.bipush 16, 2) := by decide +kernel
theorem dX0_init_42 : decode cX0_init 42 = .ok (.invokespecial 17, 3) := by decide +kernel
theorem dX0_init_45 : decode cX0_init 45 = .ok (.aastore, 1) := by decide +kernel
theorem dX0_init_46 : decode cX0_init 46 = .ok (.iinc 1 1, 3) := by decide +kernel
theorem dX0_init_49 : decode cX0_init 49 = .ok (.goto (-23), 3) := by decide +kernel
theorem dX0_init_52 : decode cX0_init 52 = .ok (.return_, 1) := by decide +kernel
theorem dX0_text_0 : decode cX0_text 0 = .ok (.iload_n 1, 1) := by decide +kernel
theorem dX0_text_1 : decode cX0_text 1 = .ok (.ifCond .lt 17, 3) := by decide +kernel
theorem dX0_text_4 : decode cX0_text 4 = .ok (.iload_n 1, 1) := by decide +kernel
theorem dX0_text_5 : decode cX0_text 5 = .ok (.iconst 4, 1) := by decide +kernel
theorem dX0_text_6 : decode cX0_text 6 = .ok (.if_icmp .ge 12, 3) := by decide +kernel
theorem dX0_text_9 : decode cX0_text 9 = .ok (.aload_n 0, 1) := by decide +kernel
theorem dX0_text_10 : decode cX0_text 10 = .ok (.getfield 11, 3) := by decide +kernel
theorem dX0_text_13 : decode cX0_text 13 = .ok (.iload_n 1, 1) := by decide +kernel
theorem dX0_text_14 : decode cX0_text 14 = .ok (.aaload, 1) := by decide +kernel
theorem dX0_text_15 : decode cX0_text 15 = .ok (.goto 4, 3) := by decide +kernel
theorem dX0_text_18 : decode cX0_text 18 = .ok (.aconst_null, 1) := by decide +kernel
theorem dX0_text_19 : decode cX0_text 19 = .ok (.areturn, 1) := by decide +kernel
theorem dX0_pipe_0 : decode cX0_pipe 0 = .ok (.aload_n 0, 1) := by decide +kernel
theorem dX0_pipe_1 : decode cX0_pipe 1 = .ok (.getfield 20, 3) := by decide +kernel
theorem dX0_pipe_4 : decode cX0_pipe 4 = .ok (.areturn, 1) := by decide +kernel
theorem dX0_total_0 : decode cX0_total 0 = .ok (.iconst 0, 1) := by decide +kernel
theorem dX0_total_1 : decode cX0_total 1 = .ok (.istore_n 1, 1) := by decide +kernel
theorem dX0_total_2 : decode cX0_total 2 = .ok (.iconst 0, 1) := by decide +kernel
theorem dX0_total_3 : decode cX0_total 3 = .ok (.istore_n 2, 1) := by decide +kernel
theorem dX0_total_4 : decode cX0_total 4 = .ok (.iload_n 2, 1) := by decide +kernel
theorem dX0_total_5 : decode cX0_total 5 = .ok (.iconst 4, 1) := by decide +kernel
theorem dX0_total_6 : decode cX0_total 6 = .ok (.if_icmp .ge 21, 3) := by decide +kernel
theorem dX0_total_9 : decode cX0_total 9 = .ok (.iload_n 1, 1) := by decide +kernel
theorem dX0_total_10 : decode cX0_total 10 = .ok (.aload_n 0, 1) := by decide +kernel
theorem dX0_total_11 : decode cX0_total 11 = .ok (.getfield 11, 3) := by decide +kernel
theorem dX0_total_14 : decode cX0_total 14 = .ok (.iload_n 2, 1) := by decide +kernel
theorem dX0_total_15 : decode cX0_total 15 = .ok (.aaload, 1) := by decide +kernel
theorem dX0_total_16 : decode cX0_total 16 = .ok (.invokevirtual 24, 3) := by decide +kernel
theorem dX0_total_19 : decode cX0_total 19 = .ok (.iadd, 1) := by decide +kernel
theorem dX0_total_20 : decode cX0_total 20 = .ok (.istore_n 1, 1) := by decide +kernel
theorem dX0_total_21 : decode cX0_total 21 = .ok (.iinc 2 1, 3) := by decide +kernel
theorem dX0_total_24 : decode cX0_total 24 = .ok (.goto (-20), 3) := by decide +kernel
theorem dX0_total_27 : decode cX0_total 27 = .ok (.iload_n 1, 1) := by decide +kernel
theorem dX0_total_28 : decode cX0_total 28 = .ok (.ireturn, 1) := by decide +kernel
theorem dX0_empty_0 : decode cX0_empty 0 = .ok (.iconst 0, 1) := by decide +kernel
theorem dX0_empty_1 : decode cX0_empty 1 = .ok (.istore_n 1, 1) := by decide +kernel
theorem dX0_empty_2 : decode cX0_empty 2 = .ok (.iload_n 1, 1) := by decide +kernel
theorem dX0_empty_3 : decode cX0_empty 3 = .ok (.iconst 4, 1) := by decide +kernel
theorem dX0_empty_4 : decode cX0_empty 4 = .ok (.if_icmp .ge 18, 3) := by decide +kernel
theorem dX0_empty_7 : decode cX0_empty 7 = .ok (.aload_n 0, 1) := by decide +kernel
theorem dX0_empty_8 : decode cX0_empty 8 = .ok (.getfield 11, 3) := by decide +kernel
theorem dX0_empty_11 : decode cX0_empty 11 = .ok (.iload_n 1, 1) := by decide +kernel
theorem dX0_empty_12 : decode cX0_empty 12 = .ok (.aaload, 1) := by decide +kernel
theorem dX0_empty_13 : decode cX0_empty 13 = .ok (.invokevirtual 28, 3) := by decide +kernel
theorem dX0_empty_16 : decode cX0_empty 16 = .ok (.iinc 1 1, 3) := by decide +kernel
theorem dX0_empty_19 : decode cX0_empty 19 = .ok (.goto (-17), 3) := by decide +kernel
theorem dX0_empty_22 : decode cX0_empty 22 = .ok (.aload_n 0, 1) := by decide +kernel
theorem dX0_empty_23 : decode cX0_empty 23 = .ok (.getfield 20, 3) := by decide +kernel
theorem dX0_empty_26 : decode cX0_empty 26 = .ok (.invokevirtual 28, 3) := by decide +kernel
theorem dX0_empty_29 : decode cX0_empty 29 = .ok (.return_, 1) := by decide +kernel
theorem dX0_become_0 : decode cX0_become 0 = .ok (.iconst 0, 1) := by decide +kernel
theorem dX0_become_1 : decode cX0_become 1 = .ok (.istore_n 2, 1) := by decide +kernel
theorem dX0_become_2 : decode cX0_become 2 = .ok (.iload_n 2, 1) := by decide +kernel
theorem dX0_become_3 : decode cX0_become 3 = .ok (.iconst 4, 1) := by decide +kernel
theorem dX0_become_4 : decode cX0_become 4 = .ok (.if_icmp .ge 24, 3) := by decide +kernel
theorem dX0_become_7 : decode cX0_become 7 = .ok (.aload_n 0, 1) := by decide +kernel
theorem dX0_become_8 : decode cX0_become 8 = .ok (.getfield 11, 3) := by decide +kernel
theorem dX0_become_11 : decode cX0_become 11 = .ok (.iload_n 2, 1) := by decide +kernel
theorem dX0_become_12 : decode cX0_become 12 = .ok (.aaload, 1) := by decide +kernel
theorem dX0_become_13 : decode cX0_become 13 = .ok (.aload_n 1, 1) := by decide +kernel
theorem dX0_become_14 : decode cX0_become 14 = .ok (.getfield 11, 3) := by decide +kernel
theorem dX0_become_17 : decode cX0_become 17 = .ok (.iload_n 2, 1) := by decide +kernel
theorem dX0_become_18 : decode cX0_become 18 = .ok (.aaload, 1) := by decide +kernel
theorem dX0_become_19 : decode cX0_become 19 = .ok (.invokevirtual 31, 3) := by decide +kernel
theorem dX0_become_22 : decode cX0_become 22 = .ok (.iinc 2 1, 3) := by decide +kernel
theorem dX0_become_25 : decode cX0_become 25 = .ok (.goto (-23), 3) := by decide +kernel
theorem dX0_become_28 : decode cX0_become 28 = .ok (.aload_n 0, 1) := by decide +kernel
theorem dX0_become_29 : decode cX0_become 29 = .ok (.getfield 20, 3) := by decide +kernel
theorem dX0_become_32 : decode cX0_become 32 = .ok (.aload_n 1, 1) := by decide +kernel
theorem dX0_become_33 : decode cX0_become 33 = .ok (.getfield 20, 3) := by decide +kernel
theorem dX0_become_36 : decode cX0_become 36 = .ok (.invokevirtual 31, 3) := by decide +kernel
theorem dX0_become_39 : decode cX0_become 39 = .ok (.return_, 1) := by decide +kernel
theorem dX1_init_0 : decode cX1_init 0 = .ok (.aload_n 0, 1) := by decide +kernel
theorem dX1_init_1 : decode cX1_init 1 = .ok (.invokespecial 3, 3) := by decide +kernel
theorem dX1_init_4 : decode cX1_init 4 = .ok (.aload_n 0, 1) := by decide +kernel
theorem dX1_init_5 : decode cX1_init 5 = .ok (.bipush 24, 2) := by decide +kernel
theorem dX1_init_7 : decode cX1_init 7 = .ok (.newarray .int, 2) := by decide +kernel
theorem dX1_init_9 : decode cX1_init 9 = .ok (.putfield 9, 3) := by decide +kernel
theorem dX1_init_12 : decode cX1_init 12 = .ok (.aload_n 0, 1) := by decide +kernel
theorem dX1_init_13 : decode cX1_init 13 = .ok (.bipush 24, 2) := by decide +kernel
theorem dX1_init_15 : decode cX1_init 15 = .ok (.newarray .int, 2) := by decide +kernel
theorem dX1_init_17 : decode cX1_init 17 = .ok (.putfield 15, 3) := by decide +kernel
theorem dX1_init_20 : decode cX1_init 20 = .ok (.aload_n 0, 1) := by decide +kernel
theorem dX1_init_21 : decode cX1_init 21 = .ok (.bipush 24, 2) := by decide +kernel
theorem dX1_init_23 : decode cX1_init 23 = .ok (.newarray .int, 2) := by decide +kernel
theorem dX1_init_25 : decode cX1_init 25 = .ok (.putfield 18, 3) := by decide +kernel
theorem dX1_init_28 : decode cX1_init 28 = .ok (.aload_n 0, 1) := by decide +kernel
theorem dX1_init_29 : decode cX1_init 29 = .ok (.bipush 24, 2) := by decide +kernel
theorem dX1_init_31 : decode cX1_init 31 = .ok (.newarray .int, 2) := by decide +kernel
theorem dX1_init_33 : decode cX1_init 33 = .ok (.putfield 21, 3) := by decide +kernel
theorem dX1_init_36 : decode cX1_init 36 = .ok (.aload_n 0, 1) := by decide +kernel
theorem dX1_init_37 : decode cX1_init 37 = .ok (.bipush 24, 2) := by decide +kernel
theorem dX1_init_39 : decode cX1_init 39 = .ok (.newarray .int, 2) := by decide +kernel
theorem dX1_init_41 : decode cX1_init 41 = .ok (.putfield 24, 3) := by decide +kernel
theorem dX1_init_44 : decode cX1_init 44 = .ok (.aload_n 0, 1) := by decide +kernel
theorem dX1_init_45 : decode cX1_init 45 = .ok (.bipush 96, 2) := by decide +kernel
theorem dX1_init_47 : decode cX1_init 47 = .ok (.newarray .int, 2) := by decide +kernel
theorem dX1_init_49 : decode cX1_init 49 = .ok (.putfield 27, 3) := by decide +kernel
theorem dX1_init_52 : decode cX1_init 52 = .ok (.aload_n 0, 1) := by decide +kernel
theorem dX1_init_53 : decode cX1_init 53 = .ok (.new 30, 3) := by decide +kernel
theorem dX1_init_56 : decode cX1_init 56 = .ok (.dup, 1) := by decide +kernel
theorem dX1_init_57 : decode cX1_init 57 = .ok (.bipush 7, 2) := by decide +kernel
theorem dX1_init_59 : decode cX1_init 59 = .ok (.invokespecial 32, 3) := by decide +kernel
theorem dX1_init_62 : decode cX1_init 62 = .ok (.putfield 35, 3) := by decide +kernel
theorem dX1_init_65 : decode cX1_init 65 = .ok (.return_, 1) := by decide +kernel
theorem dX1_size_0 : decode cX1_size 0 = .ok (.aload_n 0, 1) := by decide +kernel
theorem dX1_size_1 : decode cX1_size 1 = .ok (.getfield 39, 3) := by decide +kernel
theorem dX1_size_4 : decode cX1_size 4 = .ok (.ireturn, 1) := by decide +kernel
theorem dX1_holds_0 : decode cX1_holds 0 = .ok (.iload_n 1, 1) := by decide +kernel
theorem dX1_holds_1 : decode cX1_holds 1 = .ok (.ifCond .lt 21, 3) := by decide +kernel
theorem dX1_holds_4 : decode cX1_holds 4 = .ok (.iload_n 1, 1) := by decide +kernel
theorem dX1_holds_5 : decode cX1_holds 5 = .ok (.aload_n 0, 1) := by decide +kernel
theorem dX1_holds_6 : decode cX1_holds 6 = .ok (.getfield 39, 3) := by decide +kernel
theorem dX1_holds_9 : decode cX1_holds 9 = .ok (.if_icmp .ge 13, 3) := by decide +kernel
theorem dX1_holds_12 : decode cX1_holds 12 = .ok (.iload_n 1, 1) := by decide +kernel
theorem dX1_holds_13 : decode cX1_holds 13 = .ok (.bipush 24, 2) := by decide +kernel
theorem dX1_holds_15 : decode cX1_holds 15 = .ok (.if_icmp .ge 7, 3) := by decide +kernel
theorem dX1_holds_18 : decode cX1_holds 18 = .ok (.iconst 1, 1) := by decide +kernel
theorem dX1_holds_19 : decode cX1_holds 19 = .ok (.goto 4, 3) := by decide +kernel
theorem dX1_holds_22 : decode cX1_holds 22 = .ok (.iconst 0, 1) := by decide +kernel
theorem dX1_holds_23 : decode cX1_holds 23 = .ok (.ireturn, 1) := by decide +kernel
theorem dX1_isFull_0 : decode cX1_isFull 0 = .ok (.aload_n 0, 1) := by decide +kernel
theorem dX1_isFull_1 : decode cX1_isFull 1 = .ok (.getfield 39, 3) := by decide +kernel
theorem dX1_isFull_4 : decode cX1_isFull 4 = .ok (.bipush 24, 2) := by decide +kernel
theorem dX1_isFull_6 : decode cX1_isFull 6 = .ok (.if_icmp .lt 7, 3) := by decide +kernel
theorem dX1_isFull_9 : decode cX1_isFull 9 = .ok (.iconst 1, 1) := by decide +kernel
theorem dX1_isFull_10 : decode cX1_isFull 10 = .ok (.goto 4, 3) := by decide +kernel
theorem dX1_isFull_13 : decode cX1_isFull 13 = .ok (.iconst 0, 1) := by decide +kernel
theorem dX1_isFull_14 : decode cX1_isFull 14 = .ok (.ireturn, 1) := by decide +kernel
theorem dX1_hasRoomForPair_0 : decode cX1_hasRoomForPair 0 = .ok (.aload_n 0, 1) := by decide +kernel
theorem dX1_hasRoomForPair_1 : decode cX1_hasRoomForPair 1 = .ok (.getfield 35, 3) := by decide +kernel
theorem dX1_hasRoomForPair_4 : decode cX1_hasRoomForPair 4 = .ok (.invokevirtual 43, 3) := by decide +kernel
theorem dX1_hasRoomForPair_7 : decode cX1_hasRoomForPair 7 = .ok (.bipush 7, 2) := by decide +kernel
theorem dX1_hasRoomForPair_9 : decode cX1_hasRoomForPair 9 = .ok (.if_icmp .ge 7, 3) := by decide +kernel
theorem dX1_hasRoomForPair_12 : decode cX1_hasRoomForPair 12 = .ok (.iconst 1, 1) := by decide +kernel
theorem dX1_hasRoomForPair_13 : decode cX1_hasRoomForPair 13 = .ok (.goto 4, 3) := by decide +kernel
theorem dX1_hasRoomForPair_16 : decode cX1_hasRoomForPair 16 = .ok (.iconst 0, 1) := by decide +kernel
theorem dX1_hasRoomForPair_17 : decode cX1_hasRoomForPair 17 = .ok (.ireturn, 1) := by decide +kernel
theorem dX1_kindOf_0 : decode cX1_kindOf 0 = .ok (.aload_n 0, 1) := by decide +kernel
theorem dX1_kindOf_1 : decode cX1_kindOf 1 = .ok (.iload_n 1, 1) := by decide +kernel
theorem dX1_kindOf_2 : decode cX1_kindOf 2 = .ok (.invokevirtual 47, 3) := by decide +kernel
theorem dX1_kindOf_5 : decode cX1_kindOf 5 = .ok (.ifCond .eq 12, 3) := by decide +kernel
theorem dX1_kindOf_8 : decode cX1_kindOf 8 = .ok (.aload_n 0, 1) := by decide +kernel
theorem dX1_kindOf_9 : decode cX1_kindOf 9 = .ok (.getfield 9, 3) := by decide +kernel
theorem dX1_kindOf_12 : decode cX1_kindOf 12 = .ok (.iload_n 1, 1) := by decide +kernel
theorem dX1_kindOf_13 : decode cX1_kindOf 13 = .ok (.iaload, 1) := by decide +kernel
theorem dX1_kindOf_14 : decode cX1_kindOf 14 = .ok (.goto 5, 3) := by decide +kernel
theorem dX1_kindOf_17 : decode cX1_kindOf 17 = .ok (.bipush (-9), 2) := by decide +kernel
theorem dX1_kindOf_19 : decode cX1_kindOf 19 = .ok (.ireturn, 1) := by decide +kernel
theorem dX1_classOf_0 : decode cX1_classOf 0 = .ok (.aload_n 0, 1) := by decide +kernel
theorem dX1_classOf_1 : decode cX1_classOf 1 = .ok (.iload_n 1, 1) := by decide +kernel
theorem dX1_classOf_2 : decode cX1_classOf 2 = .ok (.invokevirtual 47, 3) := by decide +kernel
theorem dX1_classOf_5 : decode cX1_classOf 5 = .ok (.ifCond .eq 12, 3) := by decide +kernel
theorem dX1_classOf_8 : decode cX1_classOf 8 = .ok (.aload_n 0, 1) := by decide +kernel
theorem dX1_classOf_9 : decode cX1_classOf 9 = .ok (.getfield 15, 3) := by decide +kernel
theorem dX1_classOf_12 : decode cX1_classOf 12 = .ok (.iload_n 1, 1) := by decide +kernel
theorem dX1_classOf_13 : decode cX1_classOf 13 = .ok (.iaload, 1) := by decide +kernel
theorem dX1_classOf_14 : decode cX1_classOf 14 = .ok (.goto 5, 3) := by decide +kernel
theorem dX1_classOf_17 : decode cX1_classOf 17 = .ok (.bipush (-9), 2) := by decide +kernel
theorem dX1_classOf_19 : decode cX1_classOf 19 = .ok (.ireturn, 1) := by decide +kernel
theorem dX1_isBase_0 : decode cX1_isBase 0 = .ok (.aload_n 0, 1) := by decide +kernel
theorem dX1_isBase_1 : decode cX1_isBase 1 = .ok (.iload_n 1, 1) := by decide +kernel
theorem dX1_isBase_2 : decode cX1_isBase 2 = .ok (.invokevirtual 51, 3) := by decide +kernel
theorem dX1_isBase_5 : decode cX1_isBase 5 = .ok (.ifCond .ne 7, 3) := by decide +kernel
theorem dX1_isBase_8 : decode cX1_isBase 8 = .ok (.iconst 1, 1) := by decide +kernel
theorem dX1_isBase_9 : decode cX1_isBase 9 = .ok (.goto 4, 3) := by decide +kernel
theorem dX1_isBase_12 : decode cX1_isBase 12 = .ok (.iconst 0, 1) := by decide +kernel
theorem dX1_isBase_13 : decode cX1_isBase 13 = .ok (.ireturn, 1) := by decide +kernel
theorem dX1_firstOf_0 : decode cX1_firstOf 0 = .ok (.aload_n 0, 1) := by decide +kernel
theorem dX1_firstOf_1 : decode cX1_firstOf 1 = .ok (.iload_n 1, 1) := by decide +kernel
theorem dX1_firstOf_2 : decode cX1_firstOf 2 = .ok (.invokevirtual 47, 3) := by decide +kernel
theorem dX1_firstOf_5 : decode cX1_firstOf 5 = .ok (.ifCond .eq 12, 3) := by decide +kernel
theorem dX1_firstOf_8 : decode cX1_firstOf 8 = .ok (.aload_n 0, 1) := by decide +kernel
theorem dX1_firstOf_9 : decode cX1_firstOf 9 = .ok (.getfield 18, 3) := by decide +kernel
theorem dX1_firstOf_12 : decode cX1_firstOf 12 = .ok (.iload_n 1, 1) := by decide +kernel
theorem dX1_firstOf_13 : decode cX1_firstOf 13 = .ok (.iaload, 1) := by decide +kernel
theorem dX1_firstOf_14 : decode cX1_firstOf 14 = .ok (.goto 5, 3) := by decide +kernel
theorem dX1_firstOf_17 : decode cX1_firstOf 17 = .ok (.bipush (-9), 2) := by decide +kernel
theorem dX1_firstOf_19 : decode cX1_firstOf 19 = .ok (.ireturn, 1) := by decide +kernel
theorem dX1_secondOf_0 : decode cX1_secondOf 0 = .ok (.aload_n 0, 1) := by decide +kernel
theorem dX1_secondOf_1 : decode cX1_secondOf 1 = .ok (.iload_n 1, 1) := by decide +kernel
theorem dX1_secondOf_2 : decode cX1_secondOf 2 = .ok (.invokevirtual 47, 3) := by decide +kernel
theorem dX1_secondOf_5 : decode cX1_secondOf 5 = .ok (.ifCond .eq 12, 3) := by decide +kernel
theorem dX1_secondOf_8 : decode cX1_secondOf 8 = .ok (.aload_n 0, 1) := by decide +kernel
theorem dX1_secondOf_9 : decode cX1_secondOf 9 = .ok (.getfield 21, 3) := by decide +kernel
theorem dX1_secondOf_12 : decode cX1_secondOf 12 = .ok (.iload_n 1, 1) := by decide +kernel
theorem dX1_secondOf_13 : decode cX1_secondOf 13 = .ok (.iaload, 1) := by decide +kernel
theorem dX1_secondOf_14 : decode cX1_secondOf 14 = .ok (.goto 5, 3) := by decide +kernel
theorem dX1_secondOf_17 : decode cX1_secondOf 17 = .ok (.bipush (-9), 2) := by decide +kernel
theorem dX1_secondOf_19 : decode cX1_secondOf 19 = .ok (.ireturn, 1) := by decide +kernel
theorem dX1_pieceCount_0 : decode cX1_pieceCount 0 = .ok (.aload_n 0, 1) := by decide +kernel
theorem dX1_pieceCount_1 : decode cX1_pieceCount 1 = .ok (.iload_n 1, 1) := by decide +kernel
theorem dX1_pieceCount_2 : decode cX1_pieceCount 2 = .ok (.invokevirtual 47, 3) := by decide +kernel
theorem dX1_pieceCount_5 : decode cX1_pieceCount 5 = .ok (.ifCond .eq 12, 3) := by decide +kernel
theorem dX1_pieceCount_8 : decode cX1_pieceCount 8 = .ok (.aload_n 0, 1) := by decide +kernel
theorem dX1_pieceCount_9 : decode cX1_pieceCount 9 = .ok (.getfield 24, 3) := by decide +kernel
theorem dX1_pieceCount_12 : decode cX1_pieceCount 12 = .ok (.iload_n 1, 1) := by decide +kernel
theorem dX1_pieceCount_13 : decode cX1_pieceCount 13 = .ok (.iaload, 1) := by decide +kernel
theorem dX1_pieceCount_14 : decode cX1_pieceCount 14 = .ok (.goto 4, 3) := by decide +kernel
theorem dX1_pieceCount_17 : decode cX1_pieceCount 17 = .ok (.iconst 0, 1) := by decide +kernel
theorem dX1_pieceCount_18 : decode cX1_pieceCount 18 = .ok (.ireturn, 1) := by decide +kernel
theorem dX1_piece_0 : decode cX1_piece 0 = .ok (.aload_n 0, 1) := by decide +kernel
theorem dX1_piece_1 : decode cX1_piece 1 = .ok (.iload_n 1, 1) := by decide +kernel
theorem dX1_piece_2 : decode cX1_piece 2 = .ok (.invokevirtual 47, 3) := by decide +kernel
theorem dX1_piece_5 : decode cX1_piece 5 = .ok (.ifCond .eq 22, 3) := by decide +kernel
theorem dX1_piece_8 : decode cX1_piece 8 = .ok (.iload_n 2, 1) := by decide +kernel
theorem dX1_piece_9 : decode cX1_piece 9 = .ok (.ifCond .lt 18, 3) := by decide +kernel
theorem dX1_piece_12 : decode cX1_piece 12 = .ok (.iload_n 2, 1) := by decide +kernel
theorem dX1_piece_13 : decode cX1_piece 13 = .ok (.iconst 4, 1) := by decide +kernel
theorem dX1_piece_14 : decode cX1_piece 14 = .ok (.if_icmp .ge 13, 3) := by decide +kernel
theorem dX1_piece_17 : decode cX1_piece 17 = .ok (.iload_n 2, 1) := by decide +kernel
theorem dX1_piece_18 : decode cX1_piece 18 = .ok (.aload_n 0, 1) := by decide +kernel
theorem dX1_piece_19 : decode cX1_piece 19 = .ok (.getfield 24, 3) := by decide +kernel
theorem dX1_piece_22 : decode cX1_piece 22 = .ok (.iload_n 1, 1) := by decide +kernel
theorem dX1_piece_23 : decode cX1_piece 23 = .ok (.iaload, 1) := by decide +kernel
theorem dX1_piece_24 : decode cX1_piece 24 = .ok (.if_icmp .lt 6, 3) := by decide +kernel
theorem dX1_piece_27 : decode cX1_piece 27 = .ok (.bipush (-9), 2) := by decide +kernel
theorem dX1_piece_29 : decode cX1_piece 29 = .ok (.ireturn, 1) := by decide +kernel
theorem dX1_piece_30 : decode cX1_piece 30 = .ok (.aload_n 0, 1) := by decide +kernel
theorem dX1_piece_31 : decode cX1_piece 31 = .ok (.getfield 27, 3) := by decide +kernel
theorem dX1_piece_34 : decode cX1_piece 34 = .ok (.iload_n 1, 1) := by decide +kernel
theorem dX1_piece_35 : decode cX1_piece 35 = .ok (.iconst 4, 1) := by decide +kernel
theorem dX1_piece_36 : decode cX1_piece 36 = .ok (.imul, 1) := by decide +kernel
theorem dX1_piece_37 : decode cX1_piece 37 = .ok (.iload_n 2, 1) := by decide +kernel
theorem dX1_piece_38 : decode cX1_piece 38 = .ok (.iadd, 1) := by decide +kernel
theorem dX1_piece_39 : decode cX1_piece 39 = .ok (.iaload, 1) := by decide +kernel
theorem dX1_piece_40 : decode cX1_piece 40 = .ok (.ireturn, 1) := by decide +kernel
theorem dX1_pairOf_0 : decode cX1_pairOf 0 = .ok (.iconst 0, 1) := by decide +kernel
theorem dX1_pairOf_1 : decode cX1_pairOf 1 = .ok (.istore_n 3, 1) := by decide +kernel
theorem dX1_pairOf_2 : decode cX1_pairOf 2 = .ok (.iload_n 3, 1) := by decide +kernel
theorem dX1_pairOf_3 : decode cX1_pairOf 3 = .ok (.aload_n 0, 1) := by decide +kernel
theorem dX1_pairOf_4 : decode cX1_pairOf 4 = .ok (.getfield 35, 3) := by decide +kernel
theorem dX1_pairOf_7 : decode cX1_pairOf 7 = .ok (.invokevirtual 43, 3) := by decide +kernel
theorem dX1_pairOf_10 : decode cX1_pairOf 10 = .ok (.if_icmp .ge 42, 3) := by decide +kernel
theorem dX1_pairOf_13 : decode cX1_pairOf 13 = .ok (.aload_n 0, 1) := by decide +kernel
theorem dX1_pairOf_14 : decode cX1_pairOf 14 = .ok (.getfield 35, 3) := by decide +kernel
theorem dX1_pairOf_17 : decode cX1_pairOf 17 = .ok (.iload_n 3, 1) := by decide +kernel
theorem dX1_pairOf_18 : decode cX1_pairOf 18 = .ok (.invokevirtual 55, 3) := by decide +kernel
theorem dX1_pairOf_21 : decode cX1_pairOf 21 = .ok (.istore 4, 2) := by decide +kernel
theorem dX1_pairOf_23 : decode cX1_pairOf 23 = .ok (.aload_n 0, 1) := by decide +kernel
theorem dX1_pairOf_24 : decode cX1_pairOf 24 = .ok (.iload 4, 2) := by decide +kernel
theorem dX1_pairOf_26 : decode cX1_pairOf 26 = .ok (.invokevirtual 58, 3) := by decide +kernel
theorem dX1_pairOf_29 : decode cX1_pairOf 29 = .ok (.iload_n 1, 1) := by decide +kernel
theorem dX1_pairOf_30 : decode cX1_pairOf 30 = .ok (.if_icmp .ne 16, 3) := by decide +kernel
theorem dX1_pairOf_33 : decode cX1_pairOf 33 = .ok (.aload_n 0, 1) := by decide +kernel
theorem dX1_pairOf_34 : decode cX1_pairOf 34 = .ok (.iload 4, 2) := by decide +kernel
theorem dX1_pairOf_36 : decode cX1_pairOf 36 = .ok (.invokevirtual 61, 3) := by decide +kernel
theorem dX1_pairOf_39 : decode cX1_pairOf 39 = .ok (.iload_n 2, 1) := by decide +kernel
theorem dX1_pairOf_40 : decode cX1_pairOf 40 = .ok (.if_icmp .ne 6, 3) := by decide +kernel
theorem dX1_pairOf_43 : decode cX1_pairOf 43 = .ok (.iload 4, 2) := by decide +kernel
theorem dX1_pairOf_45 : decode cX1_pairOf 45 = .ok (.ireturn, 1) := by decide +kernel
theorem dX1_pairOf_46 : decode cX1_pairOf 46 = .ok (.iinc 3 1, 3) := by decide +kernel
theorem dX1_pairOf_49 : decode cX1_pairOf 49 = .ok (.goto (-47), 3) := by decide +kernel
theorem dX1_pairOf_52 : decode cX1_pairOf 52 = .ok (.bipush (-9), 2) := by decide +kernel
theorem dX1_pairOf_54 : decode cX1_pairOf 54 = .ok (.ireturn, 1) := by decide +kernel
theorem dX1_isSecondOfPair_0 : decode cX1_isSecondOfPair 0 = .ok (.iconst 0, 1) := by decide +kernel
theorem dX1_isSecondOfPair_1 : decode cX1_isSecondOfPair 1 = .ok (.istore_n 2, 1) := by decide +kernel
theorem dX1_isSecondOfPair_2 : decode cX1_isSecondOfPair 2 = .ok (.iload_n 2, 1) := by decide +kernel
theorem dX1_isSecondOfPair_3 : decode cX1_isSecondOfPair 3 = .ok (.aload_n 0, 1) := by decide +kernel
theorem dX1_isSecondOfPair_4 : decode cX1_isSecondOfPair 4 = .ok (.getfield 35, 3) := by decide +kernel
theorem dX1_isSecondOfPair_7 : decode cX1_isSecondOfPair 7 = .ok (.invokevirtual 43, 3) := by decide +kernel
theorem dX1_isSecondOfPair_10 : decode cX1_isSecondOfPair 10 = .ok (.if_icmp .ge 27, 3) := by decide +kernel
theorem dX1_isSecondOfPair_13 : decode cX1_isSecondOfPair 13 = .ok (.aload_n 0, 1) := by decide +kernel
theorem dX1_isSecondOfPair_14 : decode cX1_isSecondOfPair 14 = .ok (.aload_n 0, 1) := by decide +kernel
theorem dX1_isSecondOfPair_15 : decode cX1_isSecondOfPair 15 = .ok (.getfield 35, 3) := by decide +kernel
theorem dX1_isSecondOfPair_18 : decode cX1_isSecondOfPair 18 = .ok (.iload_n 2, 1) := by decide +kernel
theorem dX1_isSecondOfPair_19 : decode cX1_isSecondOfPair 19 = .ok (.invokevirtual 55, 3) := by decide +kernel
theorem dX1_isSecondOfPair_22 : decode cX1_isSecondOfPair 22 = .ok (.invokevirtual 61, 3) := by decide +kernel
theorem dX1_isSecondOfPair_25 : decode cX1_isSecondOfPair 25 = .ok (.iload_n 1, 1) := by decide +kernel
theorem dX1_isSecondOfPair_26 : decode cX1_isSecondOfPair 26 = .ok (.if_icmp .ne 5, 3) := by decide +kernel
theorem dX1_isSecondOfPair_29 : decode cX1_isSecondOfPair 29 = .ok (.iconst 1, 1) := by decide +kernel
theorem dX1_isSecondOfPair_30 : decode cX1_isSecondOfPair 30 = .ok (.ireturn, 1) := by decide +kernel
theorem dX1_isSecondOfPair_31 : decode cX1_isSecondOfPair 31 = .ok (.iinc 2 1, 3) := by decide +kernel
theorem dX1_isSecondOfPair_34 : decode cX1_isSecondOfPair 34 = .ok (.goto (-32), 3) := by decide +kernel
theorem dX1_isSecondOfPair_37 : decode cX1_isSecondOfPair 37 = .ok (.iconst 0, 1) := by decide +kernel
theorem dX1_isSecondOfPair_38 : decode cX1_isSecondOfPair 38 = .ok (.ireturn, 1) := by decide +kernel
theorem dX1_piecesStandAt_0 : decode cX1_piecesStandAt 0 = .ok (.iconst 0, 1) := by decide +kernel
theorem dX1_piecesStandAt_1 : decode cX1_piecesStandAt 1 = .ok (.istore 4, 2) := by decide +kernel
theorem dX1_piecesStandAt_3 : decode cX1_piecesStandAt 3 = .ok (.iload 4, 2) := by decide +kernel
theorem dX1_piecesStandAt_5 : decode cX1_piecesStandAt 5 = .ok (.aload_n 0, 1) := by decide +kernel
theorem dX1_piecesStandAt_6 : decode cX1_piecesStandAt 6 = .ok (.iload_n 1, 1) := by decide +kernel
theorem dX1_piecesStandAt_7 : decode cX1_piecesStandAt 7 = .ok (.invokevirtual 64, 3) := by decide +kernel
theorem dX1_piecesStandAt_10 : decode cX1_piecesStandAt 10 = .ok (.if_icmp .ge 40, 3) := by decide +kernel
theorem dX1_piecesStandAt_13 : decode cX1_piecesStandAt 13 = .ok (.aload_n 2, 1) := by decide +kernel
theorem dX1_piecesStandAt_14 : decode cX1_piecesStandAt 14 = .ok (.iload_n 3, 1) := by decide +kernel
theorem dX1_piecesStandAt_15 : decode cX1_piecesStandAt 15 = .ok (.iload 4, 2) := by decide +kernel
theorem dX1_piecesStandAt_17 : decode cX1_piecesStandAt 17 = .ok (.iadd, 1) := by decide +kernel
theorem dX1_piecesStandAt_18 : decode cX1_piecesStandAt 18 = .ok (.invokevirtual 67, 3) := by decide +kernel
theorem dX1_piecesStandAt_21 : decode cX1_piecesStandAt 21 = .ok (.ifCond .eq 21, 3) := by decide +kernel
theorem dX1_piecesStandAt_24 : decode cX1_piecesStandAt 24 = .ok (.aload_n 2, 1) := by decide +kernel
theorem dX1_piecesStandAt_25 : decode cX1_piecesStandAt 25 = .ok (.iload_n 3, 1) := by decide +kernel
theorem dX1_piecesStandAt_26 : decode cX1_piecesStandAt 26 = .ok (.iload 4, 2) := by decide +kernel
theorem dX1_piecesStandAt_28 : decode cX1_piecesStandAt 28 = .ok (.iadd, 1) := by decide +kernel
theorem dX1_piecesStandAt_29 : decode cX1_piecesStandAt 29 = .ok (.invokevirtual 55, 3) := by decide +kernel
theorem dX1_piecesStandAt_32 : decode cX1_piecesStandAt 32 = .ok (.aload_n 0, 1) := by decide +kernel
theorem dX1_piecesStandAt_33 : decode cX1_piecesStandAt 33 = .ok (.iload_n 1, 1) := by decide +kernel
theorem dX1_piecesStandAt_34 : decode cX1_piecesStandAt 34 = .ok (.iload 4, 2) := by decide +kernel
theorem dX1_piecesStandAt_36 : decode cX1_piecesStandAt 36 = .ok (.invokevirtual 70, 3) := by decide +kernel
theorem dX1_piecesStandAt_39 : decode cX1_piecesStandAt 39 = .ok (.if_icmp .eq 5, 3) := by decide +kernel
theorem dX1_piecesStandAt_42 : decode cX1_piecesStandAt 42 = .ok (.iconst 0, 1) := by decide +kernel
theorem dX1_piecesStandAt_43 : decode cX1_piecesStandAt 43 = .ok (.ireturn, 1) := by decide +kernel
theorem dX1_piecesStandAt_44 : decode cX1_piecesStandAt 44 = .ok (.iinc 4 1, 3) := by decide +kernel
theorem dX1_piecesStandAt_47 : decode cX1_piecesStandAt 47 = .ok (.goto (-44), 3) := by decide +kernel
theorem dX1_piecesStandAt_50 : decode cX1_piecesStandAt 50 = .ok (.iconst 1, 1) := by decide +kernel
theorem dX1_piecesStandAt_51 : decode cX1_piecesStandAt 51 = .ok (.ireturn, 1) := by decide +kernel
theorem dX1_countKind_0 : decode cX1_countKind 0 = .ok (.iconst 0, 1) := by decide +kernel
theorem dX1_countKind_1 : decode cX1_countKind 1 = .ok (.istore_n 2, 1) := by decide +kernel
theorem dX1_countKind_2 : decode cX1_countKind 2 = .ok (.iconst 0, 1) := by decide +kernel
theorem dX1_countKind_3 : decode cX1_countKind 3 = .ok (.istore_n 3, 1) := by decide +kernel
theorem dX1_countKind_4 : decode cX1_countKind 4 = .ok (.iload_n 3, 1) := by decide +kernel
theorem dX1_countKind_5 : decode cX1_countKind 5 = .ok (.aload_n 0, 1) := by decide +kernel
theorem dX1_countKind_6 : decode cX1_countKind 6 = .ok (.getfield 39, 3) := by decide +kernel
theorem dX1_countKind_9 : decode cX1_countKind 9 = .ok (.if_icmp .ge 21, 3) := by decide +kernel
theorem dX1_countKind_12 : decode cX1_countKind 12 = .ok (.aload_n 0, 1) := by decide +kernel
theorem dX1_countKind_13 : decode cX1_countKind 13 = .ok (.iload_n 3, 1) := by decide +kernel
theorem dX1_countKind_14 : decode cX1_countKind 14 = .ok (.invokevirtual 74, 3) := by decide +kernel
theorem dX1_countKind_17 : decode cX1_countKind 17 = .ok (.iload_n 1, 1) := by decide +kernel
theorem dX1_countKind_18 : decode cX1_countKind 18 = .ok (.if_icmp .ne 6, 3) := by decide +kernel
theorem dX1_countKind_21 : decode cX1_countKind 21 = .ok (.iinc 2 1, 3) := by decide +kernel
theorem dX1_countKind_24 : decode cX1_countKind 24 = .ok (.iinc 3 1, 3) := by decide +kernel
theorem dX1_countKind_27 : decode cX1_countKind 27 = .ok (.goto (-23), 3) := by decide +kernel
theorem dX1_countKind_30 : decode cX1_countKind 30 = .ok (.iload_n 2, 1) := by decide +kernel
theorem dX1_countKind_31 : decode cX1_countKind 31 = .ok (.ireturn, 1) := by decide +kernel
theorem dX1_countMarks_0 : decode cX1_countMarks 0 = .ok (.iconst 0, 1) := by decide +kernel
theorem dX1_countMarks_1 : decode cX1_countMarks 1 = .ok (.istore_n 1, 1) := by decide +kernel
theorem dX1_countMarks_2 : decode cX1_countMarks 2 = .ok (.iconst 0, 1) := by decide +kernel
theorem dX1_countMarks_3 : decode cX1_countMarks 3 = .ok (.istore_n 2, 1) := by decide +kernel
theorem dX1_countMarks_4 : decode cX1_countMarks 4 = .ok (.iload_n 2, 1) := by decide +kernel
theorem dX1_countMarks_5 : decode cX1_countMarks 5 = .ok (.aload_n 0, 1) := by decide +kernel
theorem dX1_countMarks_6 : decode cX1_countMarks 6 = .ok (.getfield 39, 3) := by decide +kernel
theorem dX1_countMarks_9 : decode cX1_countMarks 9 = .ok (.if_icmp .ge 20, 3) := by decide +kernel
theorem dX1_countMarks_12 : decode cX1_countMarks 12 = .ok (.aload_n 0, 1) := by decide +kernel
theorem dX1_countMarks_13 : decode cX1_countMarks 13 = .ok (.iload_n 2, 1) := by decide +kernel
theorem dX1_countMarks_14 : decode cX1_countMarks 14 = .ok (.invokevirtual 77, 3) := by decide +kernel
theorem dX1_countMarks_17 : decode cX1_countMarks 17 = .ok (.ifCond .ne 6, 3) := by decide +kernel
theorem dX1_countMarks_20 : decode cX1_countMarks 20 = .ok (.iinc 1 1, 3) := by decide +kernel
theorem dX1_countMarks_23 : decode cX1_countMarks 23 = .ok (.iinc 2 1, 3) := by decide +kernel
theorem dX1_countMarks_26 : decode cX1_countMarks 26 = .ok (.goto (-22), 3) := by decide +kernel
theorem dX1_countMarks_29 : decode cX1_countMarks 29 = .ok (.iload_n 1, 1) := by decide +kernel
theorem dX1_countMarks_30 : decode cX1_countMarks 30 = .ok (.ireturn, 1) := by decide +kernel
theorem dX1_mayBeFirst_0 : decode cX1_mayBeFirst 0 = .ok (.aload_n 0, 1) := by decide +kernel
theorem dX1_mayBeFirst_1 : decode cX1_mayBeFirst 1 = .ok (.iload_n 1, 1) := by decide +kernel
theorem dX1_mayBeFirst_2 : decode cX1_mayBeFirst 2 = .ok (.invokevirtual 74, 3) := by decide +kernel
theorem dX1_mayBeFirst_5 : decode cX1_mayBeFirst 5 = .ok (.istore_n 2, 1) := by decide +kernel
theorem dX1_mayBeFirst_6 : decode cX1_mayBeFirst 6 = .ok (.aload_n 0, 1) := by decide +kernel
theorem dX1_mayBeFirst_7 : decode cX1_mayBeFirst 7 = .ok (.iload_n 1, 1) := by decide +kernel
theorem dX1_mayBeFirst_8 : decode cX1_mayBeFirst 8 = .ok (.invokevirtual 51, 3) := by decide +kernel
theorem dX1_mayBeFirst_11 : decode cX1_mayBeFirst 11 = .ok (.ifCond .ne 16, 3) := by decide +kernel
theorem dX1_mayBeFirst_14 : decode cX1_mayBeFirst 14 = .ok (.iload_n 2, 1) := by decide +kernel
theorem dX1_mayBeFirst_15 : decode cX1_mayBeFirst 15 = .ok (.ifCond .eq 8, 3) := by decide +kernel
theorem dX1_mayBeFirst_18 : decode cX1_mayBeFirst 18 = .ok (.iload_n 2, 1) := by decide +kernel
theorem dX1_mayBeFirst_19 : decode cX1_mayBeFirst 19 = .ok (.iconst 1, 1) := by decide +kernel
theorem dX1_mayBeFirst_20 : decode cX1_mayBeFirst 20 = .ok (.if_icmp .ne 7, 3) := by decide +kernel
theorem dX1_mayBeFirst_23 : decode cX1_mayBeFirst 23 = .ok (.iconst 1, 1) := by decide +kernel
theorem dX1_mayBeFirst_24 : decode cX1_mayBeFirst 24 = .ok (.goto 4, 3) := by decide +kernel
theorem dX1_mayBeFirst_27 : decode cX1_mayBeFirst 27 = .ok (.iconst 0, 1) := by decide +kernel
theorem dX1_mayBeFirst_28 : decode cX1_mayBeFirst 28 = .ok (.istore_n 3, 1) := by decide +kernel
theorem dX1_mayBeFirst_29 : decode cX1_mayBeFirst 29 = .ok (.iload_n 3, 1) := by decide +kernel
theorem dX1_mayBeFirst_30 : decode cX1_mayBeFirst 30 = .ok (.ifCond .eq 16, 3) := by decide +kernel
theorem dX1_mayBeFirst_33 : decode cX1_mayBeFirst 33 = .ok (.aload_n 0, 1) := by decide +kernel
theorem dX1_mayBeFirst_34 : decode cX1_mayBeFirst 34 = .ok (.iload_n 1, 1) := by decide +kernel
theorem dX1_mayBeFirst_35 : decode cX1_mayBeFirst 35 = .ok (.invokevirtual 64, 3) := by decide +kernel
theorem dX1_mayBeFirst_38 : decode cX1_mayBeFirst 38 = .ok (.iconst 4, 1) := by decide +kernel
theorem dX1_mayBeFirst_39 : decode cX1_mayBeFirst 39 = .ok (.if_icmp .ge 7, 3) := by decide +kernel
theorem dX1_mayBeFirst_42 : decode cX1_mayBeFirst 42 = .ok (.iconst 1, 1) := by decide +kernel
theorem dX1_mayBeFirst_43 : decode cX1_mayBeFirst 43 = .ok (.goto 4, 3) := by decide +kernel
theorem dX1_mayBeFirst_46 : decode cX1_mayBeFirst 46 = .ok (.iconst 0, 1) := by decide +kernel
theorem dX1_mayBeFirst_47 : decode cX1_mayBeFirst 47 = .ok (.ireturn, 1) := by decide +kernel
theorem dX1_mayBeSecond_0 : decode cX1_mayBeSecond 0 = .ok (.aload_n 0, 1) := by decide +kernel
theorem dX1_mayBeSecond_1 : decode cX1_mayBeSecond 1 = .ok (.iload_n 3, 1) := by decide +kernel
theorem dX1_mayBeSecond_2 : decode cX1_mayBeSecond 2 = .ok (.invokevirtual 74, 3) := by decide +kernel
theorem dX1_mayBeSecond_5 : decode cX1_mayBeSecond 5 = .ok (.ifCond .eq 5, 3) := by decide +kernel
theorem dX1_mayBeSecond_8 : decode cX1_mayBeSecond 8 = .ok (.iconst 0, 1) := by decide +kernel
theorem dX1_mayBeSecond_9 : decode cX1_mayBeSecond 9 = .ok (.ireturn, 1) := by decide +kernel
theorem dX1_mayBeSecond_10 : decode cX1_mayBeSecond 10 = .ok (.aload_n 0, 1) := by decide +kernel
theorem dX1_mayBeSecond_11 : decode cX1_mayBeSecond 11 = .ok (.iload_n 3, 1) := by decide +kernel
theorem dX1_mayBeSecond_12 : decode cX1_mayBeSecond 12 = .ok (.invokevirtual 51, 3) := by decide +kernel
theorem dX1_mayBeSecond_15 : decode cX1_mayBeSecond 15 = .ok (.istore 4, 2) := by decide +kernel
theorem dX1_mayBeSecond_17 : decode cX1_mayBeSecond 17 = .ok (.aload_n 0, 1) := by decide +kernel
theorem dX1_mayBeSecond_18 : decode cX1_mayBeSecond 18 = .ok (.iload_n 2, 1) := by decide +kernel
theorem dX1_mayBeSecond_19 : decode cX1_mayBeSecond 19 = .ok (.aload_n 0, 1) := by decide +kernel
theorem dX1_mayBeSecond_20 : decode cX1_mayBeSecond 20 = .ok (.iload_n 2, 1) := by decide +kernel
theorem dX1_mayBeSecond_21 : decode cX1_mayBeSecond 21 = .ok (.invokevirtual 64, 3) := by decide +kernel
theorem dX1_mayBeSecond_24 : decode cX1_mayBeSecond 24 = .ok (.iconst 1, 1) := by decide +kernel
theorem dX1_mayBeSecond_25 : decode cX1_mayBeSecond 25 = .ok (.isub, 1) := by decide +kernel
theorem dX1_mayBeSecond_26 : decode cX1_mayBeSecond 26 = .ok (.invokevirtual 70, 3) := by decide +kernel
theorem dX1_mayBeSecond_29 : decode cX1_mayBeSecond 29 = .ok (.istore 5, 2) := by decide +kernel
theorem dX1_mayBeSecond_31 : decode cX1_mayBeSecond 31 = .ok (.iload_n 1, 1) := by decide +kernel
theorem dX1_mayBeSecond_32 : decode cX1_mayBeSecond 32 = .ok (.iconst 1, 1) := by decide +kernel
theorem dX1_mayBeSecond_33 : decode cX1_mayBeSecond 33 = .ok (.if_icmp .ne 19, 3) := by decide +kernel
theorem dX1_mayBeSecond_36 : decode cX1_mayBeSecond 36 = .ok (.iload 4, 2) := by decide +kernel
theorem dX1_mayBeSecond_38 : decode cX1_mayBeSecond 38 = .ok (.ifCond .eq 14, 3) := by decide +kernel
theorem dX1_mayBeSecond_41 : decode cX1_mayBeSecond 41 = .ok (.iload 4, 2) := by decide +kernel
theorem dX1_mayBeSecond_43 : decode cX1_mayBeSecond 43 = .ok (.aload_n 0, 1) := by decide +kernel
theorem dX1_mayBeSecond_44 : decode cX1_mayBeSecond 44 = .ok (.iload 5, 2) := by decide +kernel
theorem dX1_mayBeSecond_46 : decode cX1_mayBeSecond 46 = .ok (.invokevirtual 51, 3) := by decide +kernel
theorem dX1_mayBeSecond_49 : decode cX1_mayBeSecond 49 = .ok (.if_icmp .lt 7, 3) := by decide +kernel
theorem dX1_mayBeSecond_52 : decode cX1_mayBeSecond 52 = .ok (.iconst 1, 1) := by decide +kernel
theorem dX1_mayBeSecond_53 : decode cX1_mayBeSecond 53 = .ok (.goto 4, 3) := by decide +kernel
theorem dX1_mayBeSecond_56 : decode cX1_mayBeSecond 56 = .ok (.iconst 0, 1) := by decide +kernel
theorem dX1_mayBeSecond_57 : decode cX1_mayBeSecond 57 = .ok (.ireturn, 1) := by decide +kernel
theorem dX1_empty_0 : decode cX1_empty 0 = .ok (.aload_n 0, 1) := by decide +kernel
theorem dX1_empty_1 : decode cX1_empty 1 = .ok (.iconst 0, 1) := by decide +kernel
theorem dX1_empty_2 : decode cX1_empty 2 = .ok (.putfield 39, 3) := by decide +kernel
theorem dX1_empty_5 : decode cX1_empty 5 = .ok (.aload_n 0, 1) := by decide +kernel
theorem dX1_empty_6 : decode cX1_empty 6 = .ok (.getfield 35, 3) := by decide +kernel
theorem dX1_empty_9 : decode cX1_empty 9 = .ok (.invokevirtual 80, 3) := by decide +kernel
theorem dX1_empty_12 : decode cX1_empty 12 = .ok (.return_, 1) := by decide +kernel
theorem dX1_add_0 : decode cX1_add 0 = .ok (.aload_n 0, 1) := by decide +kernel
theorem dX1_add_1 : decode cX1_add 1 = .ok (.getfield 39, 3) := by decide +kernel
theorem dX1_add_4 : decode cX1_add 4 = .ok (.ifCond .lt 12, 3) := by decide +kernel
theorem dX1_add_7 : decode cX1_add 7 = .ok (.aload_n 0, 1) := by decide +kernel
theorem dX1_add_8 : decode cX1_add 8 = .ok (.getfield 39, 3) := by decide +kernel
theorem dX1_add_11 : decode cX1_add 11 = .ok (.bipush 24, 2) := by decide +kernel
theorem dX1_add_13 : decode cX1_add 13 = .ok (.if_icmp .lt 4, 3) := by decide +kernel
theorem dX1_add_16 : decode cX1_add 16 = .ok (.return_, 1) := by decide +kernel
theorem dX1_add_17 : decode cX1_add 17 = .ok (.aload_n 0, 1) := by decide +kernel
theorem dX1_add_18 : decode cX1_add 18 = .ok (.getfield 9, 3) := by decide +kernel
theorem dX1_add_21 : decode cX1_add 21 = .ok (.aload_n 0, 1) := by decide +kernel
theorem dX1_add_22 : decode cX1_add 22 = .ok (.getfield 39, 3) := by decide +kernel
theorem dX1_add_25 : decode cX1_add 25 = .ok (.iload_n 1, 1) := by decide +kernel
theorem dX1_add_26 : decode cX1_add 26 = .ok (.iastore, 1) := by decide +kernel
theorem dX1_add_27 : decode cX1_add 27 = .ok (.aload_n 0, 1) := by decide +kernel
theorem dX1_add_28 : decode cX1_add 28 = .ok (.getfield 15, 3) := by decide +kernel
theorem dX1_add_31 : decode cX1_add 31 = .ok (.aload_n 0, 1) := by decide +kernel
theorem dX1_add_32 : decode cX1_add 32 = .ok (.getfield 39, 3) := by decide +kernel
theorem dX1_add_35 : decode cX1_add 35 = .ok (.iload_n 2, 1) := by decide +kernel
theorem dX1_add_36 : decode cX1_add 36 = .ok (.iastore, 1) := by decide +kernel
theorem dX1_add_37 : decode cX1_add 37 = .ok (.aload_n 0, 1) := by decide +kernel
theorem dX1_add_38 : decode cX1_add 38 = .ok (.getfield 18, 3) := by decide +kernel
theorem dX1_add_41 : decode cX1_add 41 = .ok (.aload_n 0, 1) := by decide +kernel
theorem dX1_add_42 : decode cX1_add 42 = .ok (.getfield 39, 3) := by decide +kernel
theorem dX1_add_45 : decode cX1_add 45 = .ok (.iload_n 3, 1) := by decide +kernel
theorem dX1_add_46 : decode cX1_add 46 = .ok (.iastore, 1) := by decide +kernel
theorem dX1_add_47 : decode cX1_add 47 = .ok (.aload_n 0, 1) := by decide +kernel
theorem dX1_add_48 : decode cX1_add 48 = .ok (.getfield 21, 3) := by decide +kernel
theorem dX1_add_51 : decode cX1_add 51 = .ok (.aload_n 0, 1) := by decide +kernel
theorem dX1_add_52 : decode cX1_add 52 = .ok (.getfield 39, 3) := by decide +kernel
theorem dX1_add_55 : decode cX1_add 55 = .ok (.iload 4, 2) := by decide +kernel
theorem dX1_add_57 : decode cX1_add 57 = .ok (.iastore, 1) := by decide +kernel
theorem dX1_add_58 : decode cX1_add 58 = .ok (.aload_n 0, 1) := by decide +kernel
theorem dX1_add_59 : decode cX1_add 59 = .ok (.getfield 24, 3) := by decide +kernel
theorem dX1_add_62 : decode cX1_add 62 = .ok (.aload_n 0, 1) := by decide +kernel
theorem dX1_add_63 : decode cX1_add 63 = .ok (.getfield 39, 3) := by decide +kernel
theorem dX1_add_66 : decode cX1_add 66 = .ok (.iconst 0, 1) := by decide +kernel
theorem dX1_add_67 : decode cX1_add 67 = .ok (.iastore, 1) := by decide +kernel
theorem dX1_add_68 : decode cX1_add 68 = .ok (.iload_n 1, 1) := by decide +kernel
theorem dX1_add_69 : decode cX1_add 69 = .ok (.ifCond .ne 11, 3) := by decide +kernel
theorem dX1_add_72 : decode cX1_add 72 = .ok (.aload_n 0, 1) := by decide +kernel
theorem dX1_add_73 : decode cX1_add 73 = .ok (.aload_n 0, 1) := by decide +kernel
theorem dX1_add_74 : decode cX1_add 74 = .ok (.getfield 39, 3) := by decide +kernel
theorem dX1_add_77 : decode cX1_add 77 = .ok (.invokevirtual 83, 3) := by decide +kernel
theorem dX1_add_80 : decode cX1_add 80 = .ok (.aload_n 0, 1) := by decide +kernel
theorem dX1_add_81 : decode cX1_add 81 = .ok (.iload_n 3, 1) := by decide +kernel
theorem dX1_add_82 : decode cX1_add 82 = .ok (.invokevirtual 86, 3) := by decide +kernel
theorem dX1_add_85 : decode cX1_add 85 = .ok (.aload_n 0, 1) := by decide +kernel
theorem dX1_add_86 : decode cX1_add 86 = .ok (.iload 4, 2) := by decide +kernel
theorem dX1_add_88 : decode cX1_add 88 = .ok (.invokevirtual 86, 3) := by decide +kernel
theorem dX1_add_91 : decode cX1_add 91 = .ok (.iload_n 1, 1) := by decide +kernel
theorem dX1_add_92 : decode cX1_add 92 = .ok (.iconst 1, 1) := by decide +kernel
theorem dX1_add_93 : decode cX1_add 93 = .ok (.if_icmp .ne 15, 3) := by decide +kernel
theorem dX1_add_96 : decode cX1_add 96 = .ok (.aload_n 0, 1) := by decide +kernel
theorem dX1_add_97 : decode cX1_add 97 = .ok (.getfield 35, 3) := by decide +kernel
theorem dX1_add_100 : decode cX1_add 100 = .ok (.aload_n 0, 1) := by decide +kernel
theorem dX1_add_101 : decode cX1_add 101 = .ok (.getfield 39, 3) := by decide +kernel
theorem dX1_add_104 : decode cX1_add 104 = .ok (.invokevirtual 89, 3) := by decide +kernel
theorem dX1_add_107 : decode cX1_add 107 = .ok (.pop, 1) := by decide +kernel
theorem dX1_add_108 : decode cX1_add 108 = .ok (.aload_n 0, 1) := by decide +kernel
theorem dX1_add_109 : decode cX1_add 109 = .ok (.dup, 1) := by decide +kernel
theorem dX1_add_110 : decode cX1_add 110 = .ok (.getfield 39, 3) := by decide +kernel
theorem dX1_add_113 : decode cX1_add 113 = .ok (.iconst 1, 1) := by decide +kernel
theorem dX1_add_114 : decode cX1_add 114 = .ok (.iadd, 1) := by decide +kernel
theorem dX1_add_115 : decode cX1_add 115 = .ok (.putfield 39, 3) := by decide +kernel
theorem dX1_add_118 : decode cX1_add 118 = .ok (.return_, 1) := by decide +kernel
theorem dX1_addPiecesOf_0 : decode cX1_addPiecesOf 0 = .ok (.iconst 0, 1) := by decide +kernel
theorem dX1_addPiecesOf_1 : decode cX1_addPiecesOf 1 = .ok (.istore_n 2, 1) := by decide +kernel
theorem dX1_addPiecesOf_2 : decode cX1_addPiecesOf 2 = .ok (.iload_n 2, 1) := by decide +kernel
theorem dX1_addPiecesOf_3 : decode cX1_addPiecesOf 3 = .ok (.aload_n 0, 1) := by decide +kernel
theorem dX1_addPiecesOf_4 : decode cX1_addPiecesOf 4 = .ok (.iload_n 1, 1) := by decide +kernel
theorem dX1_addPiecesOf_5 : decode cX1_addPiecesOf 5 = .ok (.invokevirtual 64, 3) := by decide +kernel
theorem dX1_addPiecesOf_8 : decode cX1_addPiecesOf 8 = .ok (.if_icmp .ge 19, 3) := by decide +kernel
theorem dX1_addPiecesOf_11 : decode cX1_addPiecesOf 11 = .ok (.aload_n 0, 1) := by decide +kernel
theorem dX1_addPiecesOf_12 : decode cX1_addPiecesOf 12 = .ok (.aload_n 0, 1) := by decide +kernel
theorem dX1_addPiecesOf_13 : decode cX1_addPiecesOf 13 = .ok (.iload_n 1, 1) := by decide +kernel
theorem dX1_addPiecesOf_14 : decode cX1_addPiecesOf 14 = .ok (.iload_n 2, 1) := by decide +kernel
theorem dX1_addPiecesOf_15 : decode cX1_addPiecesOf 15 = .ok (.invokevirtual 70, 3) := by decide +kernel
theorem dX1_addPiecesOf_18 : decode cX1_addPiecesOf 18 = .ok (.invokevirtual 83, 3) := by decide +kernel
theorem dX1_addPiecesOf_21 : decode cX1_addPiecesOf 21 = .ok (.iinc 2 1, 3) := by decide +kernel
theorem dX1_addPiecesOf_24 : decode cX1_addPiecesOf 24 = .ok (.goto (-22), 3) := by decide +kernel
theorem dX1_addPiecesOf_27 : decode cX1_addPiecesOf 27 = .ok (.return_, 1) := by decide +kernel
theorem dX1_addPiece_0 : decode cX1_addPiece 0 = .ok (.aload_n 0, 1) := by decide +kernel
theorem dX1_addPiece_1 : decode cX1_addPiece 1 = .ok (.getfield 39, 3) := by decide +kernel
theorem dX1_addPiece_4 : decode cX1_addPiece 4 = .ok (.ifCond .lt 12, 3) := by decide +kernel
theorem dX1_addPiece_7 : decode cX1_addPiece 7 = .ok (.aload_n 0, 1) := by decide +kernel
theorem dX1_addPiece_8 : decode cX1_addPiece 8 = .ok (.getfield 39, 3) := by decide +kernel
theorem dX1_addPiece_11 : decode cX1_addPiece 11 = .ok (.bipush 24, 2) := by decide +kernel
theorem dX1_addPiece_13 : decode cX1_addPiece 13 = .ok (.if_icmp .lt 4, 3) := by decide +kernel
theorem dX1_addPiece_16 : decode cX1_addPiece 16 = .ok (.return_, 1) := by decide +kernel
theorem dX1_addPiece_17 : decode cX1_addPiece 17 = .ok (.aload_n 0, 1) := by decide +kernel
theorem dX1_addPiece_18 : decode cX1_addPiece 18 = .ok (.getfield 24, 3) := by decide +kernel
theorem dX1_addPiece_21 : decode cX1_addPiece 21 = .ok (.aload_n 0, 1) := by decide +kernel
theorem dX1_addPiece_22 : decode cX1_addPiece 22 = .ok (.getfield 39, 3) := by decide +kernel
theorem dX1_addPiece_25 : decode cX1_addPiece 25 = .ok (.iaload, 1) := by decide +kernel
theorem dX1_addPiece_26 : decode cX1_addPiece 26 = .ok (.istore_n 2, 1) := by decide +kernel
theorem dX1_addPiece_27 : decode cX1_addPiece 27 = .ok (.iload_n 2, 1) := by decide +kernel
theorem dX1_addPiece_28 : decode cX1_addPiece 28 = .ok (.ifCond .lt 8, 3) := by decide +kernel
theorem dX1_addPiece_31 : decode cX1_addPiece 31 = .ok (.iload_n 2, 1) := by decide +kernel
theorem dX1_addPiece_32 : decode cX1_addPiece 32 = .ok (.iconst 4, 1) := by decide +kernel
theorem dX1_addPiece_33 : decode cX1_addPiece 33 = .ok (.if_icmp .lt 4, 3) := by decide +kernel
theorem dX1_addPiece_36 : decode cX1_addPiece 36 = .ok (.return_, 1) := by decide +kernel
theorem dX1_addPiece_37 : decode cX1_addPiece 37 = .ok (.aload_n 0, 1) := by decide +kernel
theorem dX1_addPiece_38 : decode cX1_addPiece 38 = .ok (.getfield 27, 3) := by decide +kernel
theorem dX1_addPiece_41 : decode cX1_addPiece 41 = .ok (.aload_n 0, 1) := by decide +kernel
theorem dX1_addPiece_42 : decode cX1_addPiece 42 = .ok (.getfield 39, 3) := by decide +kernel
theorem dX1_addPiece_45 : decode cX1_addPiece 45 = .ok (.iconst 4, 1) := by decide +kernel
theorem dX1_addPiece_46 : decode cX1_addPiece 46 = .ok (.imul, 1) := by decide +kernel
theorem dX1_addPiece_47 : decode cX1_addPiece 47 = .ok (.iload_n 2, 1) := by decide +kernel
theorem dX1_addPiece_48 : decode cX1_addPiece 48 = .ok (.iadd, 1) := by decide +kernel
theorem dX1_addPiece_49 : decode cX1_addPiece 49 = .ok (.iload_n 1, 1) := by decide +kernel
theorem dX1_addPiece_50 : decode cX1_addPiece 50 = .ok (.iastore, 1) := by decide +kernel
theorem dX1_addPiece_51 : decode cX1_addPiece 51 = .ok (.aload_n 0, 1) := by decide +kernel
theorem dX1_addPiece_52 : decode cX1_addPiece 52 = .ok (.getfield 24, 3) := by decide +kernel
theorem dX1_addPiece_55 : decode cX1_addPiece 55 = .ok (.aload_n 0, 1) := by decide +kernel
theorem dX1_addPiece_56 : decode cX1_addPiece 56 = .ok (.getfield 39, 3) := by decide +kernel
theorem dX1_addPiece_59 : decode cX1_addPiece 59 = .ok (.iload_n 2, 1) := by decide +kernel
theorem dX1_addPiece_60 : decode cX1_addPiece 60 = .ok (.iconst 1, 1) := by decide +kernel
theorem dX1_addPiece_61 : decode cX1_addPiece 61 = .ok (.iadd, 1) := by decide +kernel
theorem dX1_addPiece_62 : decode cX1_addPiece 62 = .ok (.iastore, 1) := by decide +kernel
theorem dX1_addPiece_63 : decode cX1_addPiece 63 = .ok (.return_, 1) := by decide +kernel
theorem dX2_init_0 : decode cX2_init 0 = .ok (.aload_n 0, 1) := by decide +kernel
theorem dX2_init_1 : decode cX2_init 1 = .ok (.invokespecial 3, 3) := by decide +kernel
theorem dX2_init_4 : decode cX2_init 4 = .ok (.aload_n 0, 1) := by decide +kernel
theorem dX2_init_5 : decode cX2_init 5 = .ok (.bipush 10, 2) := by decide +kernel
theorem dX2_init_7 : decode cX2_init 7 = .ok (.anewarray 9, 3) := by decide +kernel
theorem dX2_init_10 : decode cX2_init 10 = .ok (.putfield 11, 3) := by decide +kernel
theorem dX2_init_13 : decode cX2_init 13 = .ok (.aload_n 0, 1) := by decide +kernel
theorem dX2_init_14 : decode cX2_init 14 = .ok (.bipush 10, 2) := by decide +kernel
theorem dX2_init_16 : decode cX2_init 16 = .ok (.newarray .int, 2) := by decide +kernel
theorem dX2_init_18 : decode cX2_init 18 = .ok (.putfield 17, 3) := by decide +kernel
theorem dX2_init_21 : decode cX2_init 21 = .ok (.iconst 0, 1) := by decide +kernel
theorem dX2_init_22 : decode cX2_init 22 = .ok (.istore_n 1, 1) := by decide +kernel
theorem dX2_init_23 : decode cX2_init 23 = .ok (.iload_n 1, 1) := by decide +kernel
theorem dX2_init_24 : decode cX2_init 24 = .ok (.bipush 10, 2) := by decide +kernel
theorem dX2_init_26 : decode cX2_init 26 = .ok (.if_icmp .ge 24, 3) := by decide +kernel
theorem dX2_init_29 : decode cX2_init 29 = .ok (.aload_n 0, 1) := by decide +kernel
theorem dX2_init_30 : decode cX2_init 30 = .ok (.getfield 11, 3) := by decide +kernel
theorem dX2_init_33 : decode cX2_init 33 = .ok (.iload_n 1, 1) := by decide +kernel
theorem dX2_init_34 : decode cX2_init 34 = .ok (.new 9, 3) := by decide +kernel
theorem dX2_init_37 : decode cX2_init 37 = .ok (.dup, 1) := by decide +kernel
theorem dX2_init_38 : decode cX2_init 38 = .ok (.bipush 16, 2) := by decide +kernel
theorem dX2_init_40 : decode cX2_init 40 = .ok (.invokespecial 21, 3) := by decide +kernel
theorem dX2_init_43 : decode cX2_init 43 = .ok (.aastore, 1) := by decide +kernel
theorem dX2_init_44 : decode cX2_init 44 = .ok (.iinc 1 1, 3) := by decide +kernel
theorem dX2_init_47 : decode cX2_init 47 = .ok (.goto (-24), 3) := by decide +kernel
theorem dX2_init_50 : decode cX2_init 50 = .ok (.return_, 1) := by decide +kernel
theorem dX2_known_0 : decode cX2_known 0 = .ok (.aload_n 0, 1) := by decide +kernel
theorem dX2_known_1 : decode cX2_known 1 = .ok (.getfield 24, 3) := by decide +kernel
theorem dX2_known_4 : decode cX2_known 4 = .ok (.ireturn, 1) := by decide +kernel
theorem dX2_forget_0 : decode cX2_forget 0 = .ok (.aload_n 0, 1) := by decide +kernel
theorem dX2_forget_1 : decode cX2_forget 1 = .ok (.iconst 0, 1) := by decide +kernel
theorem dX2_forget_2 : decode cX2_forget 2 = .ok (.putfield 24, 3) := by decide +kernel
theorem dX2_forget_5 : decode cX2_forget 5 = .ok (.return_, 1) := by decide +kernel
theorem dX2_remember_0 : decode cX2_remember 0 = .ok (.aload_n 0, 1) := by decide +kernel
theorem dX2_remember_1 : decode cX2_remember 1 = .ok (.getfield 28, 3) := by decide +kernel
theorem dX2_remember_4 : decode cX2_remember 4 = .ok (.ifCond .lt 23, 3) := by decide +kernel
theorem dX2_remember_7 : decode cX2_remember 7 = .ok (.aload_n 0, 1) := by decide +kernel
theorem dX2_remember_8 : decode cX2_remember 8 = .ok (.getfield 28, 3) := by decide +kernel
theorem dX2_remember_11 : decode cX2_remember 11 = .ok (.iconst 1, 1) := by decide +kernel
theorem dX2_remember_12 : decode cX2_remember 12 = .ok (.iadd, 1) := by decide +kernel
theorem dX2_remember_13 : decode cX2_remember 13 = .ok (.bipush 10, 2) := by decide +kernel
theorem dX2_remember_15 : decode cX2_remember 15 = .ok (.if_icmp .ge 12, 3) := by decide +kernel
theorem dX2_remember_18 : decode cX2_remember 18 = .ok (.aload_n 0, 1) := by decide +kernel
theorem dX2_remember_19 : decode cX2_remember 19 = .ok (.getfield 28, 3) := by decide +kernel
theorem dX2_remember_22 : decode cX2_remember 22 = .ok (.iconst 1, 1) := by decide +kernel
theorem dX2_remember_23 : decode cX2_remember 23 = .ok (.iadd, 1) := by decide +kernel
theorem dX2_remember_24 : decode cX2_remember 24 = .ok (.goto 4, 3) := by decide +kernel
theorem dX2_remember_27 : decode cX2_remember 27 = .ok (.iconst 0, 1) := by decide +kernel
theorem dX2_remember_28 : decode cX2_remember 28 = .ok (.istore_n 3, 1) := by decide +kernel
theorem dX2_remember_29 : decode cX2_remember 29 = .ok (.aload_n 0, 1) := by decide +kernel
theorem dX2_remember_30 : decode cX2_remember 30 = .ok (.getfield 17, 3) := by decide +kernel
theorem dX2_remember_33 : decode cX2_remember 33 = .ok (.iload_n 3, 1) := by decide +kernel
theorem dX2_remember_34 : decode cX2_remember 34 = .ok (.iload_n 1, 1) := by decide +kernel
theorem dX2_remember_35 : decode cX2_remember 35 = .ok (.iastore, 1) := by decide +kernel
theorem dX2_remember_36 : decode cX2_remember 36 = .ok (.aload_n 0, 1) := by decide +kernel
theorem dX2_remember_37 : decode cX2_remember 37 = .ok (.getfield 11, 3) := by decide +kernel
theorem dX2_remember_40 : decode cX2_remember 40 = .ok (.iload_n 3, 1) := by decide +kernel
theorem dX2_remember_41 : decode cX2_remember 41 = .ok (.aaload, 1) := by decide +kernel
theorem dX2_remember_42 : decode cX2_remember 42 = .ok (.aload_n 2, 1) := by decide +kernel
theorem dX2_remember_43 : decode cX2_remember 43 = .ok (.invokevirtual 31, 3) := by decide +kernel
theorem dX2_remember_46 : decode cX2_remember 46 = .ok (.aload_n 0, 1) := by decide +kernel
theorem dX2_remember_47 : decode cX2_remember 47 = .ok (.iload_n 3, 1) := by decide +kernel
theorem dX2_remember_48 : decode cX2_remember 48 = .ok (.putfield 28, 3) := by decide +kernel
theorem dX2_remember_51 : decode cX2_remember 51 = .ok (.aload_n 0, 1) := by decide +kernel
theorem dX2_remember_52 : decode cX2_remember 52 = .ok (.aload_n 0, 1) := by decide +kernel
theorem dX2_remember_53 : decode cX2_remember 53 = .ok (.getfield 24, 3) := by decide +kernel
theorem dX2_remember_56 : decode cX2_remember 56 = .ok (.iconst 1, 1) := by decide +kernel
theorem dX2_remember_57 : decode cX2_remember 57 = .ok (.iadd, 1) := by decide +kernel
theorem dX2_remember_58 : decode cX2_remember 58 = .ok (.bipush 10, 2) := by decide +kernel
theorem dX2_remember_60 : decode cX2_remember 60 = .ok (.invokestatic 35, 3) := by decide +kernel
theorem dX2_remember_63 : decode cX2_remember 63 = .ok (.putfield 24, 3) := by decide +kernel
theorem dX2_remember_66 : decode cX2_remember 66 = .ok (.return_, 1) := by decide +kernel
theorem dX2_latestText_0 : decode cX2_latestText 0 = .ok (.aload_n 0, 1) := by decide +kernel
theorem dX2_latestText_1 : decode cX2_latestText 1 = .ok (.getfield 24, 3) := by decide +kernel
theorem dX2_latestText_4 : decode cX2_latestText 4 = .ok (.ifCond .le 31, 3) := by decide +kernel
theorem dX2_latestText_7 : decode cX2_latestText 7 = .ok (.aload_n 0, 1) := by decide +kernel
theorem dX2_latestText_8 : decode cX2_latestText 8 = .ok (.getfield 28, 3) := by decide +kernel
theorem dX2_latestText_11 : decode cX2_latestText 11 = .ok (.ifCond .lt 24, 3) := by decide +kernel
theorem dX2_latestText_14 : decode cX2_latestText 14 = .ok (.aload_n 0, 1) := by decide +kernel
theorem dX2_latestText_15 : decode cX2_latestText 15 = .ok (.getfield 28, 3) := by decide +kernel
theorem dX2_latestText_18 : decode cX2_latestText 18 = .ok (.bipush 10, 2) := by decide +kernel
theorem dX2_latestText_20 : decode cX2_latestText 20 = .ok (.if_icmp .ge 15, 3) := by decide +kernel
theorem dX2_latestText_23 : decode cX2_latestText 23 = .ok (.aload_n 0, 1) := by decide +kernel
theorem dX2_latestText_24 : decode cX2_latestText 24 = .ok (.getfield 17, 3) := by decide +kernel
theorem dX2_latestText_27 : decode cX2_latestText 27 = .ok (.aload_n 0, 1) := by decide +kernel
theorem dX2_latestText_28 : decode cX2_latestText 28 = .ok (.getfield 28, 3) := by decide +kernel
theorem dX2_latestText_31 : decode cX2_latestText 31 = .ok (.iaload, 1) := by decide +kernel
theorem dX2_latestText_32 : decode cX2_latestText 32 = .ok (.goto 5, 3) := by decide +kernel
theorem dX2_latestText_35 : decode cX2_latestText 35 = .ok (.bipush (-9), 2) := by decide +kernel
theorem dX2_latestText_37 : decode cX2_latestText 37 = .ok (.ireturn, 1) := by decide +kernel
theorem dX2_giveBack_0 : decode cX2_giveBack 0 = .ok (.aload_n 0, 1) := by decide +kernel
theorem dX2_giveBack_1 : decode cX2_giveBack 1 = .ok (.getfield 24, 3) := by decide +kernel
theorem dX2_giveBack_4 : decode cX2_giveBack 4 = .ok (.ifCond .le 19, 3) := by decide +kernel
theorem dX2_giveBack_7 : decode cX2_giveBack 7 = .ok (.aload_n 0, 1) := by decide +kernel
theorem dX2_giveBack_8 : decode cX2_giveBack 8 = .ok (.getfield 28, 3) := by decide +kernel
theorem dX2_giveBack_11 : decode cX2_giveBack 11 = .ok (.ifCond .lt 12, 3) := by decide +kernel
theorem dX2_giveBack_14 : decode cX2_giveBack 14 = .ok (.aload_n 0, 1) := by decide +kernel
theorem dX2_giveBack_15 : decode cX2_giveBack 15 = .ok (.getfield 28, 3) := by decide +kernel
theorem dX2_giveBack_18 : decode cX2_giveBack 18 = .ok (.bipush 10, 2) := by decide +kernel
theorem dX2_giveBack_20 : decode cX2_giveBack 20 = .ok (.if_icmp .lt 4, 3) := by decide +kernel
theorem dX2_giveBack_23 : decode cX2_giveBack 23 = .ok (.return_, 1) := by decide +kernel
theorem dX2_giveBack_24 : decode cX2_giveBack 24 = .ok (.aload_n 1, 1) := by decide +kernel
theorem dX2_giveBack_25 : decode cX2_giveBack 25 = .ok (.aload_n 0, 1) := by decide +kernel
theorem dX2_giveBack_26 : decode cX2_giveBack 26 = .ok (.getfield 11, 3) := by decide +kernel
theorem dX2_giveBack_29 : decode cX2_giveBack 29 = .ok (.aload_n 0, 1) := by decide +kernel
theorem dX2_giveBack_30 : decode cX2_giveBack 30 = .ok (.getfield 28, 3) := by decide +kernel
theorem dX2_giveBack_33 : decode cX2_giveBack 33 = .ok (.aaload, 1) := by decide +kernel
theorem dX2_giveBack_34 : decode cX2_giveBack 34 = .ok (.invokevirtual 31, 3) := by decide +kernel
theorem dX2_giveBack_37 : decode cX2_giveBack 37 = .ok (.aload_n 0, 1) := by decide +kernel
theorem dX2_giveBack_38 : decode cX2_giveBack 38 = .ok (.aload_n 0, 1) := by decide +kernel
theorem dX2_giveBack_39 : decode cX2_giveBack 39 = .ok (.getfield 28, 3) := by decide +kernel
theorem dX2_giveBack_42 : decode cX2_giveBack 42 = .ok (.ifCond .le 12, 3) := by decide +kernel
theorem dX2_giveBack_45 : decode cX2_giveBack 45 = .ok (.aload_n 0, 1) := by decide +kernel
theorem dX2_giveBack_46 : decode cX2_giveBack 46 = .ok (.getfield 28, 3) := by decide +kernel
theorem dX2_giveBack_49 : decode cX2_giveBack 49 = .ok (.iconst 1, 1) := by decide +kernel
theorem dX2_giveBack_50 : decode cX2_giveBack 50 = .ok (.isub, 1) := by decide +kernel
theorem dX2_giveBack_51 : decode cX2_giveBack 51 = .ok (.goto 5, 3) := by decide +kernel
theorem dX2_giveBack_54 : decode cX2_giveBack 54 = .ok (.bipush 9, 2) := by decide +kernel
theorem dX2_giveBack_56 : decode cX2_giveBack 56 = .ok (.putfield 28, 3) := by decide +kernel
theorem dX2_giveBack_59 : decode cX2_giveBack 59 = .ok (.aload_n 0, 1) := by decide +kernel
theorem dX2_giveBack_60 : decode cX2_giveBack 60 = .ok (.dup, 1) := by decide +kernel
theorem dX2_giveBack_61 : decode cX2_giveBack 61 = .ok (.getfield 24, 3) := by decide +kernel
theorem dX2_giveBack_64 : decode cX2_giveBack 64 = .ok (.iconst 1, 1) := by decide +kernel
theorem dX2_giveBack_65 : decode cX2_giveBack 65 = .ok (.isub, 1) := by decide +kernel
theorem dX2_giveBack_66 : decode cX2_giveBack 66 = .ok (.putfield 24, 3) := by decide +kernel
theorem dX2_giveBack_69 : decode cX2_giveBack 69 = .ok (.return_, 1) := by decide +kernel
theorem dX3_init_0 : decode cX3_init 0 = .ok (.aload_n 0, 1) := by decide +kernel
theorem dX3_init_1 : decode cX3_init 1 = .ok (.invokespecial 3, 3) := by decide +kernel
theorem dX3_init_4 : decode cX3_init 4 = .ok (.aload_n 0, 1) := by decide +kernel
theorem dX3_init_5 : decode cX3_init 5 = .ok (.iconst 2, 1) := by decide +kernel
theorem dX3_init_6 : decode cX3_init 6 = .ok (.anewarray 9, 3) := by decide +kernel
theorem dX3_init_9 : decode cX3_init 9 = .ok (.putfield 11, 3) := by decide +kernel
theorem dX3_init_12 : decode cX3_init 12 = .ok (.aload_n 0, 1) := by decide +kernel
theorem dX3_init_13 : decode cX3_init 13 = .ok (.iconst 2, 1) := by decide +kernel
theorem dX3_init_14 : decode cX3_init 14 = .ok (.newarray .boolean, 2) := by decide +kernel
theorem dX3_init_16 : decode cX3_init 16 = .ok (.putfield 17, 3) := by decide +kernel
theorem dX3_init_19 : decode cX3_init 19 = .ok (.iconst 0, 1) := by decide +kernel
theorem dX3_init_20 : decode cX3_init 20 = .ok (.istore_n 1, 1) := by decide +kernel
theorem dX3_init_21 : decode cX3_init 21 = .ok (.iload_n 1, 1) := by decide +kernel
theorem dX3_init_22 : decode cX3_init 22 = .ok (.iconst 2, 1) := by decide +kernel
theorem dX3_init_23 : decode cX3_init 23 = .ok (.if_icmp .ge 22, 3) := by decide +kernel
theorem dX3_init_26 : decode cX3_init 26 = .ok (.aload_n 0, 1) := by decide +kernel
theorem dX3_init_27 : decode cX3_init 27 = .ok (.getfield 11, 3) := by decide +kernel
theorem dX3_init_30 : decode cX3_init 30 = .ok (.iload_n 1, 1) := by decide +kernel
theorem dX3_init_31 : decode cX3_init 31 = .ok (.new 9, 3) := by decide +kernel
theorem dX3_init_34 : decode cX3_init 34 = .ok (.dup, 1) := by decide +kernel
theorem dX3_init_35 : decode cX3_init 35 = .ok (.invokespecial 21, 3) := by decide +kernel
theorem dX3_init_38 : decode cX3_init 38 = .ok (.aastore, 1) := by decide +kernel
theorem dX3_init_39 : decode cX3_init 39 = .ok (.iinc 1 1, 3) := by decide +kernel
theorem dX3_init_42 : decode cX3_init 42 = .ok (.goto (-21), 3) := by decide +kernel
theorem dX3_init_45 : decode cX3_init 45 = .ok (.return_, 1) := by decide +kernel
theorem dX3_image_0 : decode cX3_image 0 = .ok (.iload_n 1, 1) := by decide +kernel
theorem dX3_image_1 : decode cX3_image 1 = .ok (.ifCond .lt 17, 3) := by decide +kernel
theorem dX3_image_4 : decode cX3_image 4 = .ok (.iload_n 1, 1) := by decide +kernel
theorem dX3_image_5 : decode cX3_image 5 = .ok (.iconst 2, 1) := by decide +kernel
theorem dX3_image_6 : decode cX3_image 6 = .ok (.if_icmp .ge 12, 3) := by decide +kernel
theorem dX3_image_9 : decode cX3_image 9 = .ok (.aload_n 0, 1) := by decide +kernel
theorem dX3_image_10 : decode cX3_image 10 = .ok (.getfield 11, 3) := by decide +kernel
theorem dX3_image_13 : decode cX3_image 13 = .ok (.iload_n 1, 1) := by decide +kernel
theorem dX3_image_14 : decode cX3_image 14 = .ok (.aaload, 1) := by decide +kernel
theorem dX3_image_15 : decode cX3_image 15 = .ok (.goto 4, 3) := by decide +kernel
theorem dX3_image_18 : decode cX3_image 18 = .ok (.aconst_null, 1) := by decide +kernel
theorem dX3_image_19 : decode cX3_image 19 = .ok (.areturn, 1) := by decide +kernel
theorem dX3_isKept_0 : decode cX3_isKept 0 = .ok (.iload_n 1, 1) := by decide +kernel
theorem dX3_isKept_1 : decode cX3_isKept 1 = .ok (.ifCond .lt 21, 3) := by decide +kernel
theorem dX3_isKept_4 : decode cX3_isKept 4 = .ok (.iload_n 1, 1) := by decide +kernel
theorem dX3_isKept_5 : decode cX3_isKept 5 = .ok (.iconst 2, 1) := by decide +kernel
theorem dX3_isKept_6 : decode cX3_isKept 6 = .ok (.if_icmp .ge 16, 3) := by decide +kernel
theorem dX3_isKept_9 : decode cX3_isKept 9 = .ok (.aload_n 0, 1) := by decide +kernel
theorem dX3_isKept_10 : decode cX3_isKept 10 = .ok (.getfield 17, 3) := by decide +kernel
theorem dX3_isKept_13 : decode cX3_isKept 13 = .ok (.iload_n 1, 1) := by decide +kernel
theorem dX3_isKept_14 : decode cX3_isKept 14 = .ok (.baload, 1) := by decide +kernel
theorem dX3_isKept_15 : decode cX3_isKept 15 = .ok (.ifCond .eq 7, 3) := by decide +kernel
theorem dX3_isKept_18 : decode cX3_isKept 18 = .ok (.iconst 1, 1) := by decide +kernel
theorem dX3_isKept_19 : decode cX3_isKept 19 = .ok (.goto 4, 3) := by decide +kernel
theorem dX3_isKept_22 : decode cX3_isKept 22 = .ok (.iconst 0, 1) := by decide +kernel
theorem dX3_isKept_23 : decode cX3_isKept 23 = .ok (.ireturn, 1) := by decide +kernel
theorem dX3_take_0 : decode cX3_take 0 = .ok (.iload_n 1, 1) := by decide +kernel
theorem dX3_take_1 : decode cX3_take 1 = .ok (.ifCond .lt 8, 3) := by decide +kernel
theorem dX3_take_4 : decode cX3_take 4 = .ok (.iload_n 1, 1) := by decide +kernel
theorem dX3_take_5 : decode cX3_take 5 = .ok (.iconst 2, 1) := by decide +kernel
theorem dX3_take_6 : decode cX3_take 6 = .ok (.if_icmp .lt 5, 3) := by decide +kernel
theorem dX3_take_9 : decode cX3_take 9 = .ok (.iconst 0, 1) := by decide +kernel
theorem dX3_take_10 : decode cX3_take 10 = .ok (.ireturn, 1) := by decide +kernel
theorem dX3_take_11 : decode cX3_take 11 = .ok (.aload_n 0, 1) := by decide +kernel
theorem dX3_take_12 : decode cX3_take 12 = .ok (.getfield 11, 3) := by decide +kernel
theorem dX3_take_15 : decode cX3_take 15 = .ok (.iload_n 1, 1) := by decide +kernel
theorem dX3_take_16 : decode cX3_take 16 = .ok (.aaload, 1) := by decide +kernel
theorem dX3_take_17 : decode cX3_take 17 = .ok (.aload_n 2, 1) := by decide +kernel
theorem dX3_take_18 : decode cX3_take 18 = .ok (.invokevirtual 22, 3) := by decide +kernel
theorem dX3_take_21 : decode cX3_take 21 = .ok (.aload_n 0, 1) := by decide +kernel
theorem dX3_take_22 : decode cX3_take 22 = .ok (.getfield 17, 3) := by decide +kernel
theorem dX3_take_25 : decode cX3_take 25 = .ok (.iload_n 1, 1) := by decide +kernel
theorem dX3_take_26 : decode cX3_take 26 = .ok (.iconst 1, 1) := by decide +kernel
theorem dX3_take_27 : decode cX3_take 27 = .ok (.bastore, 1) := by decide +kernel
theorem dX3_take_28 : decode cX3_take 28 = .ok (.iconst 1, 1) := by decide +kernel
theorem dX3_take_29 : decode cX3_take 29 = .ok (.ireturn, 1) := by decide +kernel
theorem dX3_drop_0 : decode cX3_drop 0 = .ok (.iconst 0, 1) := by decide +kernel
theorem dX3_drop_1 : decode cX3_drop 1 = .ok (.istore_n 1, 1) := by decide +kernel
theorem dX3_drop_2 : decode cX3_drop 2 = .ok (.iload_n 1, 1) := by decide +kernel
theorem dX3_drop_3 : decode cX3_drop 3 = .ok (.iconst 2, 1) := by decide +kernel
theorem dX3_drop_4 : decode cX3_drop 4 = .ok (.if_icmp .ge 16, 3) := by decide +kernel
theorem dX3_drop_7 : decode cX3_drop 7 = .ok (.aload_n 0, 1) := by decide +kernel
theorem dX3_drop_8 : decode cX3_drop 8 = .ok (.getfield 17, 3) := by decide +kernel
theorem dX3_drop_11 : decode cX3_drop 11 = .ok (.iload_n 1, 1) := by decide +kernel
theorem dX3_drop_12 : decode cX3_drop 12 = .ok (.iconst 0, 1) := by decide +kernel
theorem dX3_drop_13 : decode cX3_drop 13 = .ok (.bastore, 1) := by decide +kernel
theorem dX3_drop_14 : decode cX3_drop 14 = .ok (.iinc 1 1, 3) := by decide +kernel
theorem dX3_drop_17 : decode cX3_drop 17 = .ok (.goto (-15), 3) := by decide +kernel
theorem dX3_drop_20 : decode cX3_drop 20 = .ok (.return_, 1) := by decide +kernel
theorem dX4_init_0 : decode cX4_init 0 = .ok (.aload_n 0, 1) := by decide +kernel
theorem dX4_init_1 : decode cX4_init 1 = .ok (.invokespecial 3, 3) := by decide +kernel
theorem dX4_init_4 : decode cX4_init 4 = .ok (.aload_n 0, 1) := by decide +kernel
theorem dX4_init_5 : decode cX4_init 5 = .ok (.new 9, 3) := by decide +kernel
theorem dX4_init_8 : decode cX4_init 8 = .ok (.dup, 1) := by decide +kernel
theorem dX4_init_9 : decode cX4_init 9 = .ok (.sipush 150, 3) := by decide +kernel
theorem dX4_init_12 : decode cX4_init 12 = .ok (.invokespecial 11, 3) := by decide +kernel
theorem dX4_init_15 : decode cX4_init 15 = .ok (.putfield 14, 3) := by decide +kernel
theorem dX4_init_18 : decode cX4_init 18 = .ok (.return_, 1) := by decide +kernel
theorem dX4_typed_0 : decode cX4_typed 0 = .ok (.aload_n 0, 1) := by decide +kernel
theorem dX4_typed_1 : decode cX4_typed 1 = .ok (.getfield 14, 3) := by decide +kernel
theorem dX4_typed_4 : decode cX4_typed 4 = .ok (.areturn, 1) := by decide +kernel
theorem dX4_readInto_0 : decode cX4_readInto 0 = .ok (.aload_n 1, 1) := by decide +kernel
theorem dX4_readInto_1 : decode cX4_readInto 1 = .ok (.invokevirtual 20, 3) := by decide +kernel
theorem dX4_readInto_4 : decode cX4_readInto 4 = .ok (.aload_n 0, 1) := by decide +kernel
theorem dX4_readInto_5 : decode cX4_readInto 5 = .ok (.iconst 0, 1) := by decide +kernel
theorem dX4_readInto_6 : decode cX4_readInto 6 = .ok (.putfield 25, 3) := by decide +kernel
theorem dX4_readInto_9 : decode cX4_readInto 9 = .ok (.iconst 0, 1) := by decide +kernel
theorem dX4_readInto_10 : decode cX4_readInto 10 = .ok (.istore_n 2, 1) := by decide +kernel
theorem dX4_readInto_11 : decode cX4_readInto 11 = .ok (.iload_n 2, 1) := by decide +kernel
theorem dX4_readInto_12 : decode cX4_readInto 12 = .ok (.bipush 24, 2) := by decide +kernel
theorem dX4_readInto_14 : decode cX4_readInto 14 = .ok (.if_icmp .gt 55, 3) := by decide +kernel
theorem dX4_readInto_17 : decode cX4_readInto 17 = .ok (.aload_n 0, 1) := by decide +kernel
theorem dX4_readInto_18 : decode cX4_readInto 18 = .ok (.invokevirtual 29, 3) := by decide +kernel
theorem dX4_readInto_21 : decode cX4_readInto 21 = .ok (.aload_n 0, 1) := by decide +kernel
theorem dX4_readInto_22 : decode cX4_readInto 22 = .ok (.getfield 32, 3) := by decide +kernel
theorem dX4_readInto_25 : decode cX4_readInto 25 = .ok (.ifCond .ne 5, 3) := by decide +kernel
theorem dX4_readInto_28 : decode cX4_readInto 28 = .ok (.iconst (-1), 1) := by decide +kernel
theorem dX4_readInto_29 : decode cX4_readInto 29 = .ok (.ireturn, 1) := by decide +kernel
theorem dX4_readInto_30 : decode cX4_readInto 30 = .ok (.aload_n 0, 1) := by decide +kernel
theorem dX4_readInto_31 : decode cX4_readInto 31 = .ok (.aload_n 1, 1) := by decide +kernel
theorem dX4_readInto_32 : decode cX4_readInto 32 = .ok (.invokevirtual 35, 3) := by decide +kernel
theorem dX4_readInto_35 : decode cX4_readInto 35 = .ok (.ifCond .ne 8, 3) := by decide +kernel
theorem dX4_readInto_38 : decode cX4_readInto 38 = .ok (.aload_n 0, 1) := by decide +kernel
theorem dX4_readInto_39 : decode cX4_readInto 39 = .ok (.getfield 39, 3) := by decide +kernel
theorem dX4_readInto_42 : decode cX4_readInto 42 = .ok (.ireturn, 1) := by decide +kernel
theorem dX4_readInto_43 : decode cX4_readInto 43 = .ok (.aload_n 1, 1) := by decide +kernel
theorem dX4_readInto_44 : decode cX4_readInto 44 = .ok (.aload_n 0, 1) := by decide +kernel
theorem dX4_readInto_45 : decode cX4_readInto 45 = .ok (.getfield 42, 3) := by decide +kernel
theorem dX4_readInto_48 : decode cX4_readInto 48 = .ok (.aload_n 0, 1) := by decide +kernel
theorem dX4_readInto_49 : decode cX4_readInto 49 = .ok (.getfield 45, 3) := by decide +kernel
theorem dX4_readInto_52 : decode cX4_readInto 52 = .ok (.aload_n 0, 1) := by decide +kernel
theorem dX4_readInto_53 : decode cX4_readInto 53 = .ok (.getfield 48, 3) := by decide +kernel
theorem dX4_readInto_56 : decode cX4_readInto 56 = .ok (.aload_n 0, 1) := by decide +kernel
theorem dX4_readInto_57 : decode cX4_readInto 57 = .ok (.getfield 51, 3) := by decide +kernel
theorem dX4_readInto_60 : decode cX4_readInto 60 = .ok (.invokevirtual 54, 3) := by decide +kernel
theorem dX4_readInto_63 : decode cX4_readInto 63 = .ok (.iinc 2 1, 3) := by decide +kernel
theorem dX4_readInto_66 : decode cX4_readInto 66 = .ok (.goto (-55), 3) := by decide +kernel
theorem dX4_readInto_69 : decode cX4_readInto 69 = .ok (.aload_n 0, 1) := by decide +kernel
theorem dX4_readInto_70 : decode cX4_readInto 70 = .ok (.getfield 39, 3) := by decide +kernel
theorem dX4_readInto_73 : decode cX4_readInto 73 = .ok (.ireturn, 1) := by decide +kernel
theorem dX4_readCode_0 : decode cX4_readCode 0 = .ok (.aload_n 0, 1) := by decide +kernel
theorem dX4_readCode_1 : decode cX4_readCode 1 = .ok (.getfield 32, 3) := by decide +kernel
theorem dX4_readCode_4 : decode cX4_readCode 4 = .ok (.iconst 1, 1) := by decide +kernel
theorem dX4_readCode_5 : decode cX4_readCode 5 = .ok (.if_icmp .ne 10, 3) := by decide +kernel
theorem dX4_readCode_8 : decode cX4_readCode 8 = .ok (.aload_n 1, 1) := by decide +kernel
theorem dX4_readCode_9 : decode cX4_readCode 9 = .ok (.invokevirtual 58, 3) := by decide +kernel
theorem dX4_readCode_12 : decode cX4_readCode 12 = .ok (.ifCond .eq 5, 3) := by decide +kernel
theorem dX4_readCode_15 : decode cX4_readCode 15 = .ok (.iconst 0, 1) := by decide +kernel
theorem dX4_readCode_16 : decode cX4_readCode 16 = .ok (.ireturn, 1) := by decide +kernel
theorem dX4_readCode_17 : decode cX4_readCode 17 = .ok (.aload_n 0, 1) := by decide +kernel
theorem dX4_readCode_18 : decode cX4_readCode 18 = .ok (.getfield 62, 3) := by decide +kernel
theorem dX4_readCode_21 : decode cX4_readCode 21 = .ok (.lookupswitch 95 #[(99, 43), (112, 51), (115, 86), (120, 76)], 43) := by decide +kernel
theorem dX4_readCode_64 : decode cX4_readCode 64 = .ok (.aload_n 0, 1) := by decide +kernel
theorem dX4_readCode_65 : decode cX4_readCode 65 = .ok (.invokevirtual 65, 3) := by decide +kernel
theorem dX4_readCode_68 : decode cX4_readCode 68 = .ok (.istore_n 2, 1) := by decide +kernel
theorem dX4_readCode_69 : decode cX4_readCode 69 = .ok (.goto 49, 3) := by decide +kernel
theorem dX4_readCode_72 : decode cX4_readCode 72 = .ok (.aload_n 1, 1) := by decide +kernel
theorem dX4_readCode_73 : decode cX4_readCode 73 = .ok (.invokevirtual 68, 3) := by decide +kernel
theorem dX4_readCode_76 : decode cX4_readCode 76 = .ok (.ifCond .eq 16, 3) := by decide +kernel
theorem dX4_readCode_79 : decode cX4_readCode 79 = .ok (.aload_n 0, 1) := by decide +kernel
theorem dX4_readCode_80 : decode cX4_readCode 80 = .ok (.aload_n 1, 1) := by decide +kernel
theorem dX4_readCode_81 : decode cX4_readCode 81 = .ok (.iconst 1, 1) := by decide +kernel
theorem dX4_readCode_82 : decode cX4_readCode 82 = .ok (.invokevirtual 71, 3) := by decide +kernel
theorem dX4_readCode_85 : decode cX4_readCode 85 = .ok (.ifCond .eq 7, 3) := by decide +kernel
theorem dX4_readCode_88 : decode cX4_readCode 88 = .ok (.iconst 1, 1) := by decide +kernel
theorem dX4_readCode_89 : decode cX4_readCode 89 = .ok (.goto 4, 3) := by decide +kernel
theorem dX4_readCode_92 : decode cX4_readCode 92 = .ok (.iconst 0, 1) := by decide +kernel
theorem dX4_readCode_93 : decode cX4_readCode 93 = .ok (.istore_n 2, 1) := by decide +kernel
theorem dX4_readCode_94 : decode cX4_readCode 94 = .ok (.goto 24, 3) := by decide +kernel
theorem dX4_readCode_97 : decode cX4_readCode 97 = .ok (.aload_n 0, 1) := by decide +kernel
theorem dX4_readCode_98 : decode cX4_readCode 98 = .ok (.aload_n 1, 1) := by decide +kernel
theorem dX4_readCode_99 : decode cX4_readCode 99 = .ok (.iconst 2, 1) := by decide +kernel
theorem dX4_readCode_100 : decode cX4_readCode 100 = .ok (.invokevirtual 71, 3) := by decide +kernel
theorem dX4_readCode_103 : decode cX4_readCode 103 = .ok (.istore_n 2, 1) := by decide +kernel
theorem dX4_readCode_104 : decode cX4_readCode 104 = .ok (.goto 14, 3) := by decide +kernel
theorem dX4_readCode_107 : decode cX4_readCode 107 = .ok (.aload_n 0, 1) := by decide +kernel
theorem dX4_readCode_108 : decode cX4_readCode 108 = .ok (.aload_n 1, 1) := by decide +kernel
theorem dX4_readCode_109 : decode cX4_readCode 109 = .ok (.invokevirtual 75, 3) := by decide +kernel
theorem dX4_readCode_112 : decode cX4_readCode 112 = .ok (.istore_n 2, 1) := by decide +kernel
theorem dX4_readCode_113 : decode cX4_readCode 113 = .ok (.goto 5, 3) := by decide +kernel
theorem dX4_readCode_116 : decode cX4_readCode 116 = .ok (.iconst 0, 1) := by decide +kernel
theorem dX4_readCode_117 : decode cX4_readCode 117 = .ok (.istore_n 2, 1) := by decide +kernel
theorem dX4_readCode_118 : decode cX4_readCode 118 = .ok (.iload_n 2, 1) := by decide +kernel
theorem dX4_readCode_119 : decode cX4_readCode 119 = .ok (.ifCond .ne 5, 3) := by decide +kernel
theorem dX4_readCode_122 : decode cX4_readCode 122 = .ok (.iconst 0, 1) := by decide +kernel
theorem dX4_readCode_123 : decode cX4_readCode 123 = .ok (.ireturn, 1) := by decide +kernel
theorem dX4_readCode_124 : decode cX4_readCode 124 = .ok (.aload_n 0, 1) := by decide +kernel
theorem dX4_readCode_125 : decode cX4_readCode 125 = .ok (.invokevirtual 29, 3) := by decide +kernel
theorem dX4_readCode_128 : decode cX4_readCode 128 = .ok (.aload_n 0, 1) := by decide +kernel
theorem dX4_readCode_129 : decode cX4_readCode 129 = .ok (.getfield 32, 3) := by decide +kernel
theorem dX4_readCode_132 : decode cX4_readCode 132 = .ok (.iconst 3, 1) := by decide +kernel
theorem dX4_readCode_133 : decode cX4_readCode 133 = .ok (.if_icmp .ne 7, 3) := by decide +kernel
theorem dX4_readCode_136 : decode cX4_readCode 136 = .ok (.iconst 1, 1) := by decide +kernel
theorem dX4_readCode_137 : decode cX4_readCode 137 = .ok (.goto 4, 3) := by decide +kernel
theorem dX4_readCode_140 : decode cX4_readCode 140 = .ok (.iconst 0, 1) := by decide +kernel
theorem dX4_readCode_141 : decode cX4_readCode 141 = .ok (.ireturn, 1) := by decide +kernel
theorem dX4_readPlain_0 : decode cX4_readPlain 0 = .ok (.aload_n 0, 1) := by decide +kernel
theorem dX4_readPlain_1 : decode cX4_readPlain 1 = .ok (.invokevirtual 29, 3) := by decide +kernel
theorem dX4_readPlain_4 : decode cX4_readPlain 4 = .ok (.aload_n 0, 1) := by decide +kernel
theorem dX4_readPlain_5 : decode cX4_readPlain 5 = .ok (.iconst 0, 1) := by decide +kernel
theorem dX4_readPlain_6 : decode cX4_readPlain 6 = .ok (.putfield 42, 3) := by decide +kernel
theorem dX4_readPlain_9 : decode cX4_readPlain 9 = .ok (.aload_n 0, 1) := by decide +kernel
theorem dX4_readPlain_10 : decode cX4_readPlain 10 = .ok (.aload_n 0, 1) := by decide +kernel
theorem dX4_readPlain_11 : decode cX4_readPlain 11 = .ok (.getfield 62, 3) := by decide +kernel
theorem dX4_readPlain_14 : decode cX4_readPlain 14 = .ok (.putfield 45, 3) := by decide +kernel
theorem dX4_readPlain_17 : decode cX4_readPlain 17 = .ok (.aload_n 0, 1) := by decide +kernel
theorem dX4_readPlain_18 : decode cX4_readPlain 18 = .ok (.bipush (-9), 2) := by decide +kernel
theorem dX4_readPlain_20 : decode cX4_readPlain 20 = .ok (.putfield 48, 3) := by decide +kernel
theorem dX4_readPlain_23 : decode cX4_readPlain 23 = .ok (.aload_n 0, 1) := by decide +kernel
theorem dX4_readPlain_24 : decode cX4_readPlain 24 = .ok (.bipush (-9), 2) := by decide +kernel
theorem dX4_readPlain_26 : decode cX4_readPlain 26 = .ok (.putfield 51, 3) := by decide +kernel
theorem dX4_readPlain_29 : decode cX4_readPlain 29 = .ok (.aload_n 0, 1) := by decide +kernel
theorem dX4_readPlain_30 : decode cX4_readPlain 30 = .ok (.getfield 32, 3) := by decide +kernel
theorem dX4_readPlain_33 : decode cX4_readPlain 33 = .ok (.iconst 2, 1) := by decide +kernel
theorem dX4_readPlain_34 : decode cX4_readPlain 34 = .ok (.if_icmp .ne 16, 3) := by decide +kernel
theorem dX4_readPlain_37 : decode cX4_readPlain 37 = .ok (.aload_n 0, 1) := by decide +kernel
theorem dX4_readPlain_38 : decode cX4_readPlain 38 = .ok (.getfield 62, 3) := by decide +kernel
theorem dX4_readPlain_41 : decode cX4_readPlain 41 = .ok (.bipush 9, 2) := by decide +kernel
theorem dX4_readPlain_43 : decode cX4_readPlain 43 = .ok (.if_icmp .gt 7, 3) := by decide +kernel
theorem dX4_readPlain_46 : decode cX4_readPlain 46 = .ok (.iconst 1, 1) := by decide +kernel
theorem dX4_readPlain_47 : decode cX4_readPlain 47 = .ok (.goto 4, 3) := by decide +kernel
theorem dX4_readPlain_50 : decode cX4_readPlain 50 = .ok (.iconst 0, 1) := by decide +kernel
theorem dX4_readPlain_51 : decode cX4_readPlain 51 = .ok (.ireturn, 1) := by decide +kernel
theorem dX4_readSingle_0 : decode cX4_readSingle 0 = .ok (.aload_n 0, 1) := by decide +kernel
theorem dX4_readSingle_1 : decode cX4_readSingle 1 = .ok (.invokevirtual 29, 3) := by decide +kernel
theorem dX4_readSingle_4 : decode cX4_readSingle 4 = .ok (.aload_n 0, 1) := by decide +kernel
theorem dX4_readSingle_5 : decode cX4_readSingle 5 = .ok (.iconst 3, 1) := by decide +kernel
theorem dX4_readSingle_6 : decode cX4_readSingle 6 = .ok (.putfield 42, 3) := by decide +kernel
theorem dX4_readSingle_9 : decode cX4_readSingle 9 = .ok (.aload_n 0, 1) := by decide +kernel
theorem dX4_readSingle_10 : decode cX4_readSingle 10 = .ok (.aload_n 1, 1) := by decide +kernel
theorem dX4_readSingle_11 : decode cX4_readSingle 11 = .ok (.aload_n 0, 1) := by decide +kernel
theorem dX4_readSingle_12 : decode cX4_readSingle 12 = .ok (.getfield 62, 3) := by decide +kernel
theorem dX4_readSingle_15 : decode cX4_readSingle 15 = .ok (.invokevirtual 78, 3) := by decide +kernel
theorem dX4_readSingle_18 : decode cX4_readSingle 18 = .ok (.putfield 45, 3) := by decide +kernel
theorem dX4_readSingle_21 : decode cX4_readSingle 21 = .ok (.aload_n 0, 1) := by decide +kernel
theorem dX4_readSingle_22 : decode cX4_readSingle 22 = .ok (.aload_n 0, 1) := by decide +kernel
theorem dX4_readSingle_23 : decode cX4_readSingle 23 = .ok (.getfield 62, 3) := by decide +kernel
theorem dX4_readSingle_26 : decode cX4_readSingle 26 = .ok (.putfield 48, 3) := by decide +kernel
theorem dX4_readSingle_29 : decode cX4_readSingle 29 = .ok (.aload_n 0, 1) := by decide +kernel
theorem dX4_readSingle_30 : decode cX4_readSingle 30 = .ok (.bipush (-9), 2) := by decide +kernel
theorem dX4_readSingle_32 : decode cX4_readSingle 32 = .ok (.putfield 51, 3) := by decide +kernel
theorem dX4_readSingle_35 : decode cX4_readSingle 35 = .ok (.aload_n 0, 1) := by decide +kernel
theorem dX4_readSingle_36 : decode cX4_readSingle 36 = .ok (.getfield 32, 3) := by decide +kernel
theorem dX4_readSingle_39 : decode cX4_readSingle 39 = .ok (.iconst 2, 1) := by decide +kernel
theorem dX4_readSingle_40 : decode cX4_readSingle 40 = .ok (.if_icmp .ne 18, 3) := by decide +kernel
theorem dX4_readSingle_43 : decode cX4_readSingle 43 = .ok (.aload_n 1, 1) := by decide +kernel
theorem dX4_readSingle_44 : decode cX4_readSingle 44 = .ok (.aload_n 0, 1) := by decide +kernel
theorem dX4_readSingle_45 : decode cX4_readSingle 45 = .ok (.getfield 62, 3) := by decide +kernel
theorem dX4_readSingle_48 : decode cX4_readSingle 48 = .ok (.invokevirtual 82, 3) := by decide +kernel
theorem dX4_readSingle_51 : decode cX4_readSingle 51 = .ok (.ifCond .eq 7, 3) := by decide +kernel
theorem dX4_readSingle_54 : decode cX4_readSingle 54 = .ok (.iconst 1, 1) := by decide +kernel
theorem dX4_readSingle_55 : decode cX4_readSingle 55 = .ok (.goto 4, 3) := by decide +kernel
theorem dX4_readSingle_58 : decode cX4_readSingle 58 = .ok (.iconst 0, 1) := by decide +kernel
theorem dX4_readSingle_59 : decode cX4_readSingle 59 = .ok (.ireturn, 1) := by decide +kernel
theorem dX4_readTwo_0 : decode cX4_readTwo 0 = .ok (.aload_n 0, 1) := by decide +kernel
theorem dX4_readTwo_1 : decode cX4_readTwo 1 = .ok (.invokevirtual 29, 3) := by decide +kernel
theorem dX4_readTwo_4 : decode cX4_readTwo 4 = .ok (.aload_n 0, 1) := by decide +kernel
theorem dX4_readTwo_5 : decode cX4_readTwo 5 = .ok (.getfield 32, 3) := by decide +kernel
theorem dX4_readTwo_8 : decode cX4_readTwo 8 = .ok (.iconst 2, 1) := by decide +kernel
theorem dX4_readTwo_9 : decode cX4_readTwo 9 = .ok (.if_icmp .ne 14, 3) := by decide +kernel
theorem dX4_readTwo_12 : decode cX4_readTwo 12 = .ok (.aload_n 1, 1) := by decide +kernel
theorem dX4_readTwo_13 : decode cX4_readTwo 13 = .ok (.aload_n 0, 1) := by decide +kernel
theorem dX4_readTwo_14 : decode cX4_readTwo 14 = .ok (.getfield 62, 3) := by decide +kernel
theorem dX4_readTwo_17 : decode cX4_readTwo 17 = .ok (.invokevirtual 86, 3) := by decide +kernel
theorem dX4_readTwo_20 : decode cX4_readTwo 20 = .ok (.ifCond .ne 5, 3) := by decide +kernel
theorem dX4_readTwo_23 : decode cX4_readTwo 23 = .ok (.iconst 0, 1) := by decide +kernel
theorem dX4_readTwo_24 : decode cX4_readTwo 24 = .ok (.ireturn, 1) := by decide +kernel
theorem dX4_readTwo_25 : decode cX4_readTwo 25 = .ok (.aload_n 0, 1) := by decide +kernel
theorem dX4_readTwo_26 : decode cX4_readTwo 26 = .ok (.iload_n 2, 1) := by decide +kernel
theorem dX4_readTwo_27 : decode cX4_readTwo 27 = .ok (.putfield 42, 3) := by decide +kernel
theorem dX4_readTwo_30 : decode cX4_readTwo 30 = .ok (.aload_n 0, 1) := by decide +kernel
theorem dX4_readTwo_31 : decode cX4_readTwo 31 = .ok (.iconst 0, 1) := by decide +kernel
theorem dX4_readTwo_32 : decode cX4_readTwo 32 = .ok (.putfield 45, 3) := by decide +kernel
theorem dX4_readTwo_35 : decode cX4_readTwo 35 = .ok (.aload_n 0, 1) := by decide +kernel
theorem dX4_readTwo_36 : decode cX4_readTwo 36 = .ok (.aload_n 0, 1) := by decide +kernel
theorem dX4_readTwo_37 : decode cX4_readTwo 37 = .ok (.getfield 62, 3) := by decide +kernel
theorem dX4_readTwo_40 : decode cX4_readTwo 40 = .ok (.putfield 48, 3) := by decide +kernel
theorem dX4_readTwo_43 : decode cX4_readTwo 43 = .ok (.aload_n 0, 1) := by decide +kernel
theorem dX4_readTwo_44 : decode cX4_readTwo 44 = .ok (.invokevirtual 29, 3) := by decide +kernel
theorem dX4_readTwo_47 : decode cX4_readTwo 47 = .ok (.aload_n 0, 1) := by decide +kernel
theorem dX4_readTwo_48 : decode cX4_readTwo 48 = .ok (.aload_n 0, 1) := by decide +kernel
theorem dX4_readTwo_49 : decode cX4_readTwo 49 = .ok (.getfield 62, 3) := by decide +kernel
theorem dX4_readTwo_52 : decode cX4_readTwo 52 = .ok (.putfield 51, 3) := by decide +kernel
theorem dX4_readTwo_55 : decode cX4_readTwo 55 = .ok (.aload_n 0, 1) := by decide +kernel
theorem dX4_readTwo_56 : decode cX4_readTwo 56 = .ok (.getfield 32, 3) := by decide +kernel
theorem dX4_readTwo_59 : decode cX4_readTwo 59 = .ok (.iconst 2, 1) := by decide +kernel
theorem dX4_readTwo_60 : decode cX4_readTwo 60 = .ok (.if_icmp .ne 22, 3) := by decide +kernel
theorem dX4_readTwo_63 : decode cX4_readTwo 63 = .ok (.aload_n 1, 1) := by decide +kernel
theorem dX4_readTwo_64 : decode cX4_readTwo 64 = .ok (.aload_n 0, 1) := by decide +kernel
theorem dX4_readTwo_65 : decode cX4_readTwo 65 = .ok (.getfield 42, 3) := by decide +kernel
theorem dX4_readTwo_68 : decode cX4_readTwo 68 = .ok (.aload_n 0, 1) := by decide +kernel
theorem dX4_readTwo_69 : decode cX4_readTwo 69 = .ok (.getfield 48, 3) := by decide +kernel
theorem dX4_readTwo_72 : decode cX4_readTwo 72 = .ok (.aload_n 0, 1) := by decide +kernel
theorem dX4_readTwo_73 : decode cX4_readTwo 73 = .ok (.getfield 51, 3) := by decide +kernel
theorem dX4_readTwo_76 : decode cX4_readTwo 76 = .ok (.invokevirtual 89, 3) := by decide +kernel
theorem dX4_readTwo_79 : decode cX4_readTwo 79 = .ok (.ifCond .ne 5, 3) := by decide +kernel
theorem dX4_readTwo_82 : decode cX4_readTwo 82 = .ok (.iconst 0, 1) := by decide +kernel
theorem dX4_readTwo_83 : decode cX4_readTwo 83 = .ok (.ireturn, 1) := by decide +kernel
theorem dX4_readTwo_84 : decode cX4_readTwo 84 = .ok (.aload_n 0, 1) := by decide +kernel
theorem dX4_readTwo_85 : decode cX4_readTwo 85 = .ok (.getfield 42, 3) := by decide +kernel
theorem dX4_readTwo_88 : decode cX4_readTwo 88 = .ok (.iconst 1, 1) := by decide +kernel
theorem dX4_readTwo_89 : decode cX4_readTwo 89 = .ok (.if_icmp .ne 20, 3) := by decide +kernel
theorem dX4_readTwo_92 : decode cX4_readTwo 92 = .ok (.aload_n 1, 1) := by decide +kernel
theorem dX4_readTwo_93 : decode cX4_readTwo 93 = .ok (.aload_n 0, 1) := by decide +kernel
theorem dX4_readTwo_94 : decode cX4_readTwo 94 = .ok (.getfield 48, 3) := by decide +kernel
theorem dX4_readTwo_97 : decode cX4_readTwo 97 = .ok (.aload_n 0, 1) := by decide +kernel
theorem dX4_readTwo_98 : decode cX4_readTwo 98 = .ok (.getfield 51, 3) := by decide +kernel
theorem dX4_readTwo_101 : decode cX4_readTwo 101 = .ok (.invokevirtual 93, 3) := by decide +kernel
theorem dX4_readTwo_104 : decode cX4_readTwo 104 = .ok (.bipush (-9), 2) := by decide +kernel
theorem dX4_readTwo_106 : decode cX4_readTwo 106 = .ok (.if_icmp .ne 7, 3) := by decide +kernel
theorem dX4_readTwo_109 : decode cX4_readTwo 109 = .ok (.iconst 1, 1) := by decide +kernel
theorem dX4_readTwo_110 : decode cX4_readTwo 110 = .ok (.goto 4, 3) := by decide +kernel
theorem dX4_readTwo_113 : decode cX4_readTwo 113 = .ok (.iconst 0, 1) := by decide +kernel
theorem dX4_readTwo_114 : decode cX4_readTwo 114 = .ok (.ireturn, 1) := by decide +kernel
theorem dX4_step_0 : decode cX4_step 0 = .ok (.aload_n 0, 1) := by decide +kernel
theorem dX4_step_1 : decode cX4_step 1 = .ok (.getfield 25, 3) := by decide +kernel
theorem dX4_step_4 : decode cX4_step 4 = .ok (.aload_n 0, 1) := by decide +kernel
theorem dX4_step_5 : decode cX4_step 5 = .ok (.getfield 14, 3) := by decide +kernel
theorem dX4_step_8 : decode cX4_step 8 = .ok (.invokevirtual 97, 3) := by decide +kernel
theorem dX4_step_11 : decode cX4_step 11 = .ok (.if_icmp .ge 32, 3) := by decide +kernel
theorem dX4_step_14 : decode cX4_step 14 = .ok (.aload_n 0, 1) := by decide +kernel
theorem dX4_step_15 : decode cX4_step 15 = .ok (.getfield 14, 3) := by decide +kernel
theorem dX4_step_18 : decode cX4_step 18 = .ok (.aload_n 0, 1) := by decide +kernel
theorem dX4_step_19 : decode cX4_step 19 = .ok (.getfield 25, 3) := by decide +kernel
theorem dX4_step_22 : decode cX4_step 22 = .ok (.invokevirtual 101, 3) := by decide +kernel
theorem dX4_step_25 : decode cX4_step 25 = .ok (.bipush 32, 2) := by decide +kernel
theorem dX4_step_27 : decode cX4_step 27 = .ok (.if_icmp .ne 16, 3) := by decide +kernel
theorem dX4_step_30 : decode cX4_step 30 = .ok (.aload_n 0, 1) := by decide +kernel
theorem dX4_step_31 : decode cX4_step 31 = .ok (.dup, 1) := by decide +kernel
theorem dX4_step_32 : decode cX4_step 32 = .ok (.getfield 25, 3) := by decide +kernel
theorem dX4_step_35 : decode cX4_step 35 = .ok (.iconst 1, 1) := by decide +kernel
theorem dX4_step_36 : decode cX4_step 36 = .ok (.iadd, 1) := by decide +kernel
theorem dX4_step_37 : decode cX4_step 37 = .ok (.putfield 25, 3) := by decide +kernel
theorem dX4_step_40 : decode cX4_step 40 = .ok (.goto (-40), 3) := by decide +kernel
theorem dX4_step_43 : decode cX4_step 43 = .ok (.aload_n 0, 1) := by decide +kernel
theorem dX4_step_44 : decode cX4_step 44 = .ok (.aload_n 0, 1) := by decide +kernel
theorem dX4_step_45 : decode cX4_step 45 = .ok (.getfield 25, 3) := by decide +kernel
theorem dX4_step_48 : decode cX4_step 48 = .ok (.putfield 39, 3) := by decide +kernel
theorem dX4_step_51 : decode cX4_step 51 = .ok (.aload_n 0, 1) := by decide +kernel
theorem dX4_step_52 : decode cX4_step 52 = .ok (.getfield 25, 3) := by decide +kernel
theorem dX4_step_55 : decode cX4_step 55 = .ok (.aload_n 0, 1) := by decide +kernel
theorem dX4_step_56 : decode cX4_step 56 = .ok (.getfield 14, 3) := by decide +kernel
theorem dX4_step_59 : decode cX4_step 59 = .ok (.invokevirtual 97, 3) := by decide +kernel
theorem dX4_step_62 : decode cX4_step 62 = .ok (.if_icmp .lt 11, 3) := by decide +kernel
theorem dX4_step_65 : decode cX4_step 65 = .ok (.aload_n 0, 1) := by decide +kernel
theorem dX4_step_66 : decode cX4_step 66 = .ok (.iconst 0, 1) := by decide +kernel
theorem dX4_step_67 : decode cX4_step 67 = .ok (.putfield 32, 3) := by decide +kernel
theorem dX4_step_70 : decode cX4_step 70 = .ok (.goto 86, 3) := by decide +kernel
theorem dX4_step_73 : decode cX4_step 73 = .ok (.aload_n 0, 1) := by decide +kernel
theorem dX4_step_74 : decode cX4_step 74 = .ok (.getfield 14, 3) := by decide +kernel
theorem dX4_step_77 : decode cX4_step 77 = .ok (.aload_n 0, 1) := by decide +kernel
theorem dX4_step_78 : decode cX4_step 78 = .ok (.getfield 25, 3) := by decide +kernel
theorem dX4_step_81 : decode cX4_step 81 = .ok (.invokevirtual 101, 3) := by decide +kernel
theorem dX4_step_84 : decode cX4_step 84 = .ok (.invokestatic 104, 3) := by decide +kernel
theorem dX4_step_87 : decode cX4_step 87 = .ok (.ifCond .eq 10, 3) := by decide +kernel
theorem dX4_step_90 : decode cX4_step 90 = .ok (.aload_n 0, 1) := by decide +kernel
theorem dX4_step_91 : decode cX4_step 91 = .ok (.invokevirtual 107, 3) := by decide +kernel
theorem dX4_step_94 : decode cX4_step 94 = .ok (.goto 62, 3) := by decide +kernel
theorem dX4_step_97 : decode cX4_step 97 = .ok (.aload_n 0, 1) := by decide +kernel
theorem dX4_step_98 : decode cX4_step 98 = .ok (.getfield 14, 3) := by decide +kernel
theorem dX4_step_101 : decode cX4_step 101 = .ok (.aload_n 0, 1) := by decide +kernel
theorem dX4_step_102 : decode cX4_step 102 = .ok (.getfield 25, 3) := by decide +kernel
theorem dX4_step_105 : decode cX4_step 105 = .ok (.invokevirtual 101, 3) := by decide +kernel
theorem dX4_step_108 : decode cX4_step 108 = .ok (.invokestatic 110, 3) := by decide +kernel
theorem dX4_step_111 : decode cX4_step 111 = .ok (.ifCond .eq 10, 3) := by decide +kernel
theorem dX4_step_114 : decode cX4_step 114 = .ok (.aload_n 0, 1) := by decide +kernel
theorem dX4_step_115 : decode cX4_step 115 = .ok (.invokevirtual 113, 3) := by decide +kernel
theorem dX4_step_118 : decode cX4_step 118 = .ok (.goto 38, 3) := by decide +kernel
theorem dX4_step_121 : decode cX4_step 121 = .ok (.aload_n 0, 1) := by decide +kernel
theorem dX4_step_122 : decode cX4_step 122 = .ok (.aload_n 0, 1) := by decide +kernel
theorem dX4_step_123 : decode cX4_step 123 = .ok (.getfield 14, 3) := by decide +kernel
theorem dX4_step_126 : decode cX4_step 126 = .ok (.aload_n 0, 1) := by decide +kernel
theorem dX4_step_127 : decode cX4_step 127 = .ok (.getfield 25, 3) := by decide +kernel
theorem dX4_step_130 : decode cX4_step 130 = .ok (.invokevirtual 101, 3) := by decide +kernel
theorem dX4_step_133 : decode cX4_step 133 = .ok (.bipush 59, 2) := by decide +kernel
theorem dX4_step_135 : decode cX4_step 135 = .ok (.if_icmp .ne 7, 3) := by decide +kernel
theorem dX4_step_138 : decode cX4_step 138 = .ok (.iconst 3, 1) := by decide +kernel
theorem dX4_step_139 : decode cX4_step 139 = .ok (.goto 4, 3) := by decide +kernel
theorem dX4_step_142 : decode cX4_step 142 = .ok (.iconst 4, 1) := by decide +kernel
theorem dX4_step_143 : decode cX4_step 143 = .ok (.putfield 32, 3) := by decide +kernel
theorem dX4_step_146 : decode cX4_step 146 = .ok (.aload_n 0, 1) := by decide +kernel
theorem dX4_step_147 : decode cX4_step 147 = .ok (.dup, 1) := by decide +kernel
theorem dX4_step_148 : decode cX4_step 148 = .ok (.getfield 25, 3) := by decide +kernel
theorem dX4_step_151 : decode cX4_step 151 = .ok (.iconst 1, 1) := by decide +kernel
theorem dX4_step_152 : decode cX4_step 152 = .ok (.iadd, 1) := by decide +kernel
theorem dX4_step_153 : decode cX4_step 153 = .ok (.putfield 25, 3) := by decide +kernel
theorem dX4_step_156 : decode cX4_step 156 = .ok (.return_, 1) := by decide +kernel
theorem dX4_takeLetters_0 : decode cX4_takeLetters 0 = .ok (.aload_n 0, 1) := by decide +kernel
theorem dX4_takeLetters_1 : decode cX4_takeLetters 1 = .ok (.iconst 1, 1) := by decide +kernel
theorem dX4_takeLetters_2 : decode cX4_takeLetters 2 = .ok (.putfield 32, 3) := by decide +kernel
theorem dX4_takeLetters_5 : decode cX4_takeLetters 5 = .ok (.aload_n 0, 1) := by decide +kernel
theorem dX4_takeLetters_6 : decode cX4_takeLetters 6 = .ok (.aload_n 0, 1) := by decide +kernel
theorem dX4_takeLetters_7 : decode cX4_takeLetters 7 = .ok (.getfield 14, 3) := by decide +kernel
theorem dX4_takeLetters_10 : decode cX4_takeLetters 10 = .ok (.aload_n 0, 1) := by decide +kernel
theorem dX4_takeLetters_11 : decode cX4_takeLetters 11 = .ok (.getfield 25, 3) := by decide +kernel
theorem dX4_takeLetters_14 : decode cX4_takeLetters 14 = .ok (.invokevirtual 101, 3) := by decide +kernel
theorem dX4_takeLetters_17 : decode cX4_takeLetters 17 = .ok (.putfield 62, 3) := by decide +kernel
theorem dX4_takeLetters_20 : decode cX4_takeLetters 20 = .ok (.aload_n 0, 1) := by decide +kernel
theorem dX4_takeLetters_21 : decode cX4_takeLetters 21 = .ok (.getfield 25, 3) := by decide +kernel
theorem dX4_takeLetters_24 : decode cX4_takeLetters 24 = .ok (.aload_n 0, 1) := by decide +kernel
theorem dX4_takeLetters_25 : decode cX4_takeLetters 25 = .ok (.getfield 14, 3) := by decide +kernel
theorem dX4_takeLetters_28 : decode cX4_takeLetters 28 = .ok (.invokevirtual 97, 3) := by decide +kernel
theorem dX4_takeLetters_31 : decode cX4_takeLetters 31 = .ok (.if_icmp .ge 33, 3) := by decide +kernel
theorem dX4_takeLetters_34 : decode cX4_takeLetters 34 = .ok (.aload_n 0, 1) := by decide +kernel
theorem dX4_takeLetters_35 : decode cX4_takeLetters 35 = .ok (.getfield 14, 3) := by decide +kernel
theorem dX4_takeLetters_38 : decode cX4_takeLetters 38 = .ok (.aload_n 0, 1) := by decide +kernel
theorem dX4_takeLetters_39 : decode cX4_takeLetters 39 = .ok (.getfield 25, 3) := by decide +kernel
theorem dX4_takeLetters_42 : decode cX4_takeLetters 42 = .ok (.invokevirtual 101, 3) := by decide +kernel
theorem dX4_takeLetters_45 : decode cX4_takeLetters 45 = .ok (.invokestatic 104, 3) := by decide +kernel
theorem dX4_takeLetters_48 : decode cX4_takeLetters 48 = .ok (.ifCond .eq 16, 3) := by decide +kernel
theorem dX4_takeLetters_51 : decode cX4_takeLetters 51 = .ok (.aload_n 0, 1) := by decide +kernel
theorem dX4_takeLetters_52 : decode cX4_takeLetters 52 = .ok (.dup, 1) := by decide +kernel
theorem dX4_takeLetters_53 : decode cX4_takeLetters 53 = .ok (.getfield 25, 3) := by decide +kernel
theorem dX4_takeLetters_56 : decode cX4_takeLetters 56 = .ok (.iconst 1, 1) := by decide +kernel
theorem dX4_takeLetters_57 : decode cX4_takeLetters 57 = .ok (.iadd, 1) := by decide +kernel
theorem dX4_takeLetters_58 : decode cX4_takeLetters 58 = .ok (.putfield 25, 3) := by decide +kernel
theorem dX4_takeLetters_61 : decode cX4_takeLetters 61 = .ok (.goto (-41), 3) := by decide +kernel
theorem dX4_takeLetters_64 : decode cX4_takeLetters 64 = .ok (.aload_n 0, 1) := by decide +kernel
theorem dX4_takeLetters_65 : decode cX4_takeLetters 65 = .ok (.getfield 25, 3) := by decide +kernel
theorem dX4_takeLetters_68 : decode cX4_takeLetters 68 = .ok (.aload_n 0, 1) := by decide +kernel
theorem dX4_takeLetters_69 : decode cX4_takeLetters 69 = .ok (.getfield 39, 3) := by decide +kernel
theorem dX4_takeLetters_72 : decode cX4_takeLetters 72 = .ok (.isub, 1) := by decide +kernel
theorem dX4_takeLetters_73 : decode cX4_takeLetters 73 = .ok (.iconst 1, 1) := by decide +kernel
theorem dX4_takeLetters_74 : decode cX4_takeLetters 74 = .ok (.if_icmp .le 8, 3) := by decide +kernel
theorem dX4_takeLetters_77 : decode cX4_takeLetters 77 = .ok (.aload_n 0, 1) := by decide +kernel
theorem dX4_takeLetters_78 : decode cX4_takeLetters 78 = .ok (.iconst 0, 1) := by decide +kernel
theorem dX4_takeLetters_79 : decode cX4_takeLetters 79 = .ok (.putfield 62, 3) := by decide +kernel
theorem dX4_takeLetters_82 : decode cX4_takeLetters 82 = .ok (.return_, 1) := by decide +kernel
theorem dX4_takeNumber_0 : decode cX4_takeNumber 0 = .ok (.aload_n 0, 1) := by decide +kernel
theorem dX4_takeNumber_1 : decode cX4_takeNumber 1 = .ok (.iconst 0, 1) := by decide +kernel
theorem dX4_takeNumber_2 : decode cX4_takeNumber 2 = .ok (.putfield 62, 3) := by decide +kernel
theorem dX4_takeNumber_5 : decode cX4_takeNumber 5 = .ok (.aload_n 0, 1) := by decide +kernel
theorem dX4_takeNumber_6 : decode cX4_takeNumber 6 = .ok (.getfield 25, 3) := by decide +kernel
theorem dX4_takeNumber_9 : decode cX4_takeNumber 9 = .ok (.aload_n 0, 1) := by decide +kernel
theorem dX4_takeNumber_10 : decode cX4_takeNumber 10 = .ok (.getfield 14, 3) := by decide +kernel
theorem dX4_takeNumber_13 : decode cX4_takeNumber 13 = .ok (.invokevirtual 97, 3) := by decide +kernel
theorem dX4_takeNumber_16 : decode cX4_takeNumber 16 = .ok (.if_icmp .ge 64, 3) := by decide +kernel
theorem dX4_takeNumber_19 : decode cX4_takeNumber 19 = .ok (.aload_n 0, 1) := by decide +kernel
theorem dX4_takeNumber_20 : decode cX4_takeNumber 20 = .ok (.getfield 14, 3) := by decide +kernel
theorem dX4_takeNumber_23 : decode cX4_takeNumber 23 = .ok (.aload_n 0, 1) := by decide +kernel
theorem dX4_takeNumber_24 : decode cX4_takeNumber 24 = .ok (.getfield 25, 3) := by decide +kernel
theorem dX4_takeNumber_27 : decode cX4_takeNumber 27 = .ok (.invokevirtual 101, 3) := by decide +kernel
theorem dX4_takeNumber_30 : decode cX4_takeNumber 30 = .ok (.invokestatic 110, 3) := by decide +kernel
theorem dX4_takeNumber_33 : decode cX4_takeNumber 33 = .ok (.ifCond .eq 47, 3) := by decide +kernel
theorem dX4_takeNumber_36 : decode cX4_takeNumber 36 = .ok (.aload_n 0, 1) := by decide +kernel
theorem dX4_takeNumber_37 : decode cX4_takeNumber 37 = .ok (.aload_n 0, 1) := by decide +kernel
theorem dX4_takeNumber_38 : decode cX4_takeNumber 38 = .ok (.getfield 62, 3) := by decide +kernel
theorem dX4_takeNumber_41 : decode cX4_takeNumber 41 = .ok (.bipush 10, 2) := by decide +kernel
theorem dX4_takeNumber_43 : decode cX4_takeNumber 43 = .ok (.imul, 1) := by decide +kernel
theorem dX4_takeNumber_44 : decode cX4_takeNumber 44 = .ok (.aload_n 0, 1) := by decide +kernel
theorem dX4_takeNumber_45 : decode cX4_takeNumber 45 = .ok (.getfield 14, 3) := by decide +kernel
theorem dX4_takeNumber_48 : decode cX4_takeNumber 48 = .ok (.aload_n 0, 1) := by decide +kernel
theorem dX4_takeNumber_49 : decode cX4_takeNumber 49 = .ok (.getfield 25, 3) := by decide +kernel
theorem dX4_takeNumber_52 : decode cX4_takeNumber 52 = .ok (.invokevirtual 101, 3) := by decide +kernel
theorem dX4_takeNumber_55 : decode cX4_takeNumber 55 = .ok (.iadd, 1) := by decide +kernel
theorem dX4_takeNumber_56 : decode cX4_takeNumber 56 = .ok (.bipush 48, 2) := by decide +kernel
theorem dX4_takeNumber_58 : decode cX4_takeNumber 58 = .ok (.isub, 1) := by decide +kernel
theorem dX4_takeNumber_59 : decode cX4_takeNumber 59 = .ok (.bipush 100, 2) := by decide +kernel
theorem dX4_takeNumber_61 : decode cX4_takeNumber 61 = .ok (.invokestatic 116, 3) := by decide +kernel
theorem dX4_takeNumber_64 : decode cX4_takeNumber 64 = .ok (.putfield 62, 3) := by decide +kernel
theorem dX4_takeNumber_67 : decode cX4_takeNumber 67 = .ok (.aload_n 0, 1) := by decide +kernel
theorem dX4_takeNumber_68 : decode cX4_takeNumber 68 = .ok (.dup, 1) := by decide +kernel
theorem dX4_takeNumber_69 : decode cX4_takeNumber 69 = .ok (.getfield 25, 3) := by decide +kernel
theorem dX4_takeNumber_72 : decode cX4_takeNumber 72 = .ok (.iconst 1, 1) := by decide +kernel
theorem dX4_takeNumber_73 : decode cX4_takeNumber 73 = .ok (.iadd, 1) := by decide +kernel
theorem dX4_takeNumber_74 : decode cX4_takeNumber 74 = .ok (.putfield 25, 3) := by decide +kernel
theorem dX4_takeNumber_77 : decode cX4_takeNumber 77 = .ok (.goto (-72), 3) := by decide +kernel
theorem dX4_takeNumber_80 : decode cX4_takeNumber 80 = .ok (.aload_n 0, 1) := by decide +kernel
theorem dX4_takeNumber_81 : decode cX4_takeNumber 81 = .ok (.getfield 25, 3) := by decide +kernel
theorem dX4_takeNumber_84 : decode cX4_takeNumber 84 = .ok (.aload_n 0, 1) := by decide +kernel
theorem dX4_takeNumber_85 : decode cX4_takeNumber 85 = .ok (.getfield 39, 3) := by decide +kernel
theorem dX4_takeNumber_88 : decode cX4_takeNumber 88 = .ok (.isub, 1) := by decide +kernel
theorem dX4_takeNumber_89 : decode cX4_takeNumber 89 = .ok (.iconst 1, 1) := by decide +kernel
theorem dX4_takeNumber_90 : decode cX4_takeNumber 90 = .ok (.if_icmp .le 23, 3) := by decide +kernel
theorem dX4_takeNumber_93 : decode cX4_takeNumber 93 = .ok (.aload_n 0, 1) := by decide +kernel
theorem dX4_takeNumber_94 : decode cX4_takeNumber 94 = .ok (.getfield 14, 3) := by decide +kernel
theorem dX4_takeNumber_97 : decode cX4_takeNumber 97 = .ok (.aload_n 0, 1) := by decide +kernel
theorem dX4_takeNumber_98 : decode cX4_takeNumber 98 = .ok (.getfield 39, 3) := by decide +kernel
theorem dX4_takeNumber_101 : decode cX4_takeNumber 101 = .ok (.invokevirtual 101, 3) := by decide +kernel
theorem dX4_takeNumber_104 : decode cX4_takeNumber 104 = .ok (.bipush 48, 2) := by decide +kernel
theorem dX4_takeNumber_106 : decode cX4_takeNumber 106 = .ok (.if_icmp .ne 7, 3) := by decide +kernel
theorem dX4_takeNumber_109 : decode cX4_takeNumber 109 = .ok (.iconst 1, 1) := by decide +kernel
theorem dX4_takeNumber_110 : decode cX4_takeNumber 110 = .ok (.goto 4, 3) := by decide +kernel
theorem dX4_takeNumber_113 : decode cX4_takeNumber 113 = .ok (.iconst 0, 1) := by decide +kernel
theorem dX4_takeNumber_114 : decode cX4_takeNumber 114 = .ok (.istore_n 1, 1) := by decide +kernel
theorem dX4_takeNumber_115 : decode cX4_takeNumber 115 = .ok (.aload_n 0, 1) := by decide +kernel
theorem dX4_takeNumber_116 : decode cX4_takeNumber 116 = .ok (.iload_n 1, 1) := by decide +kernel
theorem dX4_takeNumber_117 : decode cX4_takeNumber 117 = .ok (.ifCond .ne 12, 3) := by decide +kernel
theorem dX4_takeNumber_120 : decode cX4_takeNumber 120 = .ok (.aload_n 0, 1) := by decide +kernel
theorem dX4_takeNumber_121 : decode cX4_takeNumber 121 = .ok (.getfield 62, 3) := by decide +kernel
theorem dX4_takeNumber_124 : decode cX4_takeNumber 124 = .ok (.bipush 99, 2) := by decide +kernel
theorem dX4_takeNumber_126 : decode cX4_takeNumber 126 = .ok (.if_icmp .le 7, 3) := by decide +kernel
theorem dX4_takeNumber_129 : decode cX4_takeNumber 129 = .ok (.iconst 4, 1) := by decide +kernel
theorem dX4_takeNumber_130 : decode cX4_takeNumber 130 = .ok (.goto 4, 3) := by decide +kernel
theorem dX4_takeNumber_133 : decode cX4_takeNumber 133 = .ok (.iconst 2, 1) := by decide +kernel
theorem dX4_takeNumber_134 : decode cX4_takeNumber 134 = .ok (.putfield 32, 3) := by decide +kernel
theorem dX4_takeNumber_137 : decode cX4_takeNumber 137 = .ok (.return_, 1) := by decide +kernel
theorem dX4_isLetter_0 : decode cX4_isLetter 0 = .ok (.iload_n 0, 1) := by decide +kernel
theorem dX4_isLetter_1 : decode cX4_isLetter 1 = .ok (.bipush 97, 2) := by decide +kernel
theorem dX4_isLetter_3 : decode cX4_isLetter 3 = .ok (.if_icmp .lt 13, 3) := by decide +kernel
theorem dX4_isLetter_6 : decode cX4_isLetter 6 = .ok (.iload_n 0, 1) := by decide +kernel
theorem dX4_isLetter_7 : decode cX4_isLetter 7 = .ok (.bipush 122, 2) := by decide +kernel
theorem dX4_isLetter_9 : decode cX4_isLetter 9 = .ok (.if_icmp .gt 7, 3) := by decide +kernel
theorem dX4_isLetter_12 : decode cX4_isLetter 12 = .ok (.iconst 1, 1) := by decide +kernel
theorem dX4_isLetter_13 : decode cX4_isLetter 13 = .ok (.goto 4, 3) := by decide +kernel
theorem dX4_isLetter_16 : decode cX4_isLetter 16 = .ok (.iconst 0, 1) := by decide +kernel
theorem dX4_isLetter_17 : decode cX4_isLetter 17 = .ok (.ireturn, 1) := by decide +kernel
theorem dX4_isDigit_0 : decode cX4_isDigit 0 = .ok (.iload_n 0, 1) := by decide +kernel
theorem dX4_isDigit_1 : decode cX4_isDigit 1 = .ok (.bipush 48, 2) := by decide +kernel
theorem dX4_isDigit_3 : decode cX4_isDigit 3 = .ok (.if_icmp .lt 13, 3) := by decide +kernel
theorem dX4_isDigit_6 : decode cX4_isDigit 6 = .ok (.iload_n 0, 1) := by decide +kernel
theorem dX4_isDigit_7 : decode cX4_isDigit 7 = .ok (.bipush 57, 2) := by decide +kernel
theorem dX4_isDigit_9 : decode cX4_isDigit 9 = .ok (.if_icmp .gt 7, 3) := by decide +kernel
theorem dX4_isDigit_12 : decode cX4_isDigit 12 = .ok (.iconst 1, 1) := by decide +kernel
theorem dX4_isDigit_13 : decode cX4_isDigit 13 = .ok (.goto 4, 3) := by decide +kernel
theorem dX4_isDigit_16 : decode cX4_isDigit 16 = .ok (.iconst 0, 1) := by decide +kernel
theorem dX4_isDigit_17 : decode cX4_isDigit 17 = .ok (.ireturn, 1) := by decide +kernel
