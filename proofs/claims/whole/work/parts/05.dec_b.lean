theorem dX5_init_0 : decode cX5_init 0 = .ok (.aload_n 0, 1) := by decide +kernel
theorem dX5_init_1 : decode cX5_init 1 = .ok (.invokespecial 3, 3) := by decide +kernel
theorem dX5_init_4 : decode cX5_init 4 = .ok (.aload_n 0, 1) := by decide +kernel
theorem dX5_init_5 : decode cX5_init 5 = .ok (.iload_n 1, 1) := by decide +kernel
theorem dX5_init_6 : decode cX5_init 6 = .ok (.iconst 0, 1) := by decide +kernel
theorem dX5_init_7 : decode cX5_init 7 = .ok (.invokestatic 9, 3) := by decide +kernel
theorem dX5_init_10 : decode cX5_init 10 = .ok (.newarray .int, 2) := by decide +kernel
theorem dX5_init_12 : decode cX5_init 12 = .ok (.putfield 15, 3) := by decide +kernel
theorem dX5_init_15 : decode cX5_init 15 = .ok (.return_, 1) := by decide +kernel
theorem dX5_length_0 : decode cX5_length 0 = .ok (.aload_n 0, 1) := by decide +kernel
theorem dX5_length_1 : decode cX5_length 1 = .ok (.getfield 21, 3) := by decide +kernel
theorem dX5_length_4 : decode cX5_length 4 = .ok (.ireturn, 1) := by decide +kernel
theorem dX5_has_0 : decode cX5_has 0 = .ok (.iload_n 1, 1) := by decide +kernel
theorem dX5_has_1 : decode cX5_has 1 = .ok (.ifCond .lt 24, 3) := by decide +kernel
theorem dX5_has_4 : decode cX5_has 4 = .ok (.iload_n 1, 1) := by decide +kernel
theorem dX5_has_5 : decode cX5_has 5 = .ok (.aload_n 0, 1) := by decide +kernel
theorem dX5_has_6 : decode cX5_has 6 = .ok (.getfield 21, 3) := by decide +kernel
theorem dX5_has_9 : decode cX5_has 9 = .ok (.if_icmp .ge 16, 3) := by decide +kernel
theorem dX5_has_12 : decode cX5_has 12 = .ok (.iload_n 1, 1) := by decide +kernel
theorem dX5_has_13 : decode cX5_has 13 = .ok (.aload_n 0, 1) := by decide +kernel
theorem dX5_has_14 : decode cX5_has 14 = .ok (.getfield 15, 3) := by decide +kernel
theorem dX5_has_17 : decode cX5_has 17 = .ok (.arraylength, 1) := by decide +kernel
theorem dX5_has_18 : decode cX5_has 18 = .ok (.if_icmp .ge 7, 3) := by decide +kernel
theorem dX5_has_21 : decode cX5_has 21 = .ok (.iconst 1, 1) := by decide +kernel
theorem dX5_has_22 : decode cX5_has 22 = .ok (.goto 4, 3) := by decide +kernel
theorem dX5_has_25 : decode cX5_has 25 = .ok (.iconst 0, 1) := by decide +kernel
theorem dX5_has_26 : decode cX5_has 26 = .ok (.ireturn, 1) := by decide +kernel
theorem dX5_cell_0 : decode cX5_cell 0 = .ok (.aload_n 0, 1) := by decide +kernel
theorem dX5_cell_1 : decode cX5_cell 1 = .ok (.iload_n 1, 1) := by decide +kernel
theorem dX5_cell_2 : decode cX5_cell 2 = .ok (.invokevirtual 25, 3) := by decide +kernel
theorem dX5_cell_5 : decode cX5_cell 5 = .ok (.ifCond .eq 12, 3) := by decide +kernel
theorem dX5_cell_8 : decode cX5_cell 8 = .ok (.aload_n 0, 1) := by decide +kernel
theorem dX5_cell_9 : decode cX5_cell 9 = .ok (.getfield 15, 3) := by decide +kernel
theorem dX5_cell_12 : decode cX5_cell 12 = .ok (.iload_n 1, 1) := by decide +kernel
theorem dX5_cell_13 : decode cX5_cell 13 = .ok (.iaload, 1) := by decide +kernel
theorem dX5_cell_14 : decode cX5_cell 14 = .ok (.goto 5, 3) := by decide +kernel
theorem dX5_cell_17 : decode cX5_cell 17 = .ok (.bipush (-9), 2) := by decide +kernel
theorem dX5_cell_19 : decode cX5_cell 19 = .ok (.ireturn, 1) := by decide +kernel
theorem dX5_setCell_0 : decode cX5_setCell 0 = .ok (.aload_n 0, 1) := by decide +kernel
theorem dX5_setCell_1 : decode cX5_setCell 1 = .ok (.iload_n 1, 1) := by decide +kernel
theorem dX5_setCell_2 : decode cX5_setCell 2 = .ok (.invokevirtual 25, 3) := by decide +kernel
theorem dX5_setCell_5 : decode cX5_setCell 5 = .ok (.ifCond .eq 10, 3) := by decide +kernel
theorem dX5_setCell_8 : decode cX5_setCell 8 = .ok (.aload_n 0, 1) := by decide +kernel
theorem dX5_setCell_9 : decode cX5_setCell 9 = .ok (.getfield 15, 3) := by decide +kernel
theorem dX5_setCell_12 : decode cX5_setCell 12 = .ok (.iload_n 1, 1) := by decide +kernel
theorem dX5_setCell_13 : decode cX5_setCell 13 = .ok (.iload_n 2, 1) := by decide +kernel
theorem dX5_setCell_14 : decode cX5_setCell 14 = .ok (.iastore, 1) := by decide +kernel
theorem dX5_setCell_15 : decode cX5_setCell 15 = .ok (.return_, 1) := by decide +kernel
theorem dX5_swapWithNext_0 : decode cX5_swapWithNext 0 = .ok (.aload_n 0, 1) := by decide +kernel
theorem dX5_swapWithNext_1 : decode cX5_swapWithNext 1 = .ok (.iload_n 1, 1) := by decide +kernel
theorem dX5_swapWithNext_2 : decode cX5_swapWithNext 2 = .ok (.invokevirtual 25, 3) := by decide +kernel
theorem dX5_swapWithNext_5 : decode cX5_swapWithNext 5 = .ok (.ifCond .eq 43, 3) := by decide +kernel
theorem dX5_swapWithNext_8 : decode cX5_swapWithNext 8 = .ok (.aload_n 0, 1) := by decide +kernel
theorem dX5_swapWithNext_9 : decode cX5_swapWithNext 9 = .ok (.iload_n 1, 1) := by decide +kernel
theorem dX5_swapWithNext_10 : decode cX5_swapWithNext 10 = .ok (.iconst 1, 1) := by decide +kernel
theorem dX5_swapWithNext_11 : decode cX5_swapWithNext 11 = .ok (.iadd, 1) := by decide +kernel
theorem dX5_swapWithNext_12 : decode cX5_swapWithNext 12 = .ok (.invokevirtual 25, 3) := by decide +kernel
theorem dX5_swapWithNext_15 : decode cX5_swapWithNext 15 = .ok (.ifCond .eq 33, 3) := by decide +kernel
theorem dX5_swapWithNext_18 : decode cX5_swapWithNext 18 = .ok (.aload_n 0, 1) := by decide +kernel
theorem dX5_swapWithNext_19 : decode cX5_swapWithNext 19 = .ok (.getfield 15, 3) := by decide +kernel
theorem dX5_swapWithNext_22 : decode cX5_swapWithNext 22 = .ok (.iload_n 1, 1) := by decide +kernel
theorem dX5_swapWithNext_23 : decode cX5_swapWithNext 23 = .ok (.iconst 1, 1) := by decide +kernel
theorem dX5_swapWithNext_24 : decode cX5_swapWithNext 24 = .ok (.iadd, 1) := by decide +kernel
theorem dX5_swapWithNext_25 : decode cX5_swapWithNext 25 = .ok (.iaload, 1) := by decide +kernel
theorem dX5_swapWithNext_26 : decode cX5_swapWithNext 26 = .ok (.istore_n 2, 1) := by decide +kernel
theorem dX5_swapWithNext_27 : decode cX5_swapWithNext 27 = .ok (.aload_n 0, 1) := by decide +kernel
theorem dX5_swapWithNext_28 : decode cX5_swapWithNext 28 = .ok (.getfield 15, 3) := by decide +kernel
theorem dX5_swapWithNext_31 : decode cX5_swapWithNext 31 = .ok (.iload_n 1, 1) := by decide +kernel
theorem dX5_swapWithNext_32 : decode cX5_swapWithNext 32 = .ok (.iconst 1, 1) := by decide +kernel
theorem dX5_swapWithNext_33 : decode cX5_swapWithNext 33 = .ok (.iadd, 1) := by decide +kernel
theorem dX5_swapWithNext_34 : decode cX5_swapWithNext 34 = .ok (.aload_n 0, 1) := by decide +kernel
theorem dX5_swapWithNext_35 : decode cX5_swapWithNext 35 = .ok (.getfield 15, 3) := by decide +kernel
theorem dX5_swapWithNext_38 : decode cX5_swapWithNext 38 = .ok (.iload_n 1, 1) := by decide +kernel
theorem dX5_swapWithNext_39 : decode cX5_swapWithNext 39 = .ok (.iaload, 1) := by decide +kernel
theorem dX5_swapWithNext_40 : decode cX5_swapWithNext 40 = .ok (.iastore, 1) := by decide +kernel
theorem dX5_swapWithNext_41 : decode cX5_swapWithNext 41 = .ok (.aload_n 0, 1) := by decide +kernel
theorem dX5_swapWithNext_42 : decode cX5_swapWithNext 42 = .ok (.getfield 15, 3) := by decide +kernel
theorem dX5_swapWithNext_45 : decode cX5_swapWithNext 45 = .ok (.iload_n 1, 1) := by decide +kernel
theorem dX5_swapWithNext_46 : decode cX5_swapWithNext 46 = .ok (.iload_n 2, 1) := by decide +kernel
theorem dX5_swapWithNext_47 : decode cX5_swapWithNext 47 = .ok (.iastore, 1) := by decide +kernel
theorem dX5_swapWithNext_48 : decode cX5_swapWithNext 48 = .ok (.return_, 1) := by decide +kernel
theorem dX5_empty_0 : decode cX5_empty 0 = .ok (.aload_n 0, 1) := by decide +kernel
theorem dX5_empty_1 : decode cX5_empty 1 = .ok (.iconst 0, 1) := by decide +kernel
theorem dX5_empty_2 : decode cX5_empty 2 = .ok (.putfield 21, 3) := by decide +kernel
theorem dX5_empty_5 : decode cX5_empty 5 = .ok (.return_, 1) := by decide +kernel
theorem dX5_push_0 : decode cX5_push 0 = .ok (.aload_n 0, 1) := by decide +kernel
theorem dX5_push_1 : decode cX5_push 1 = .ok (.getfield 21, 3) := by decide +kernel
theorem dX5_push_4 : decode cX5_push 4 = .ok (.ifCond .lt 15, 3) := by decide +kernel
theorem dX5_push_7 : decode cX5_push 7 = .ok (.aload_n 0, 1) := by decide +kernel
theorem dX5_push_8 : decode cX5_push 8 = .ok (.getfield 21, 3) := by decide +kernel
theorem dX5_push_11 : decode cX5_push 11 = .ok (.aload_n 0, 1) := by decide +kernel
theorem dX5_push_12 : decode cX5_push 12 = .ok (.getfield 15, 3) := by decide +kernel
theorem dX5_push_15 : decode cX5_push 15 = .ok (.arraylength, 1) := by decide +kernel
theorem dX5_push_16 : decode cX5_push 16 = .ok (.if_icmp .lt 5, 3) := by decide +kernel
theorem dX5_push_19 : decode cX5_push 19 = .ok (.iconst 0, 1) := by decide +kernel
theorem dX5_push_20 : decode cX5_push 20 = .ok (.ireturn, 1) := by decide +kernel
theorem dX5_push_21 : decode cX5_push 21 = .ok (.aload_n 0, 1) := by decide +kernel
theorem dX5_push_22 : decode cX5_push 22 = .ok (.getfield 15, 3) := by decide +kernel
theorem dX5_push_25 : decode cX5_push 25 = .ok (.aload_n 0, 1) := by decide +kernel
theorem dX5_push_26 : decode cX5_push 26 = .ok (.getfield 21, 3) := by decide +kernel
theorem dX5_push_29 : decode cX5_push 29 = .ok (.iload_n 1, 1) := by decide +kernel
theorem dX5_push_30 : decode cX5_push 30 = .ok (.iastore, 1) := by decide +kernel
theorem dX5_push_31 : decode cX5_push 31 = .ok (.aload_n 0, 1) := by decide +kernel
theorem dX5_push_32 : decode cX5_push 32 = .ok (.dup, 1) := by decide +kernel
theorem dX5_push_33 : decode cX5_push 33 = .ok (.getfield 21, 3) := by decide +kernel
theorem dX5_push_36 : decode cX5_push 36 = .ok (.iconst 1, 1) := by decide +kernel
theorem dX5_push_37 : decode cX5_push 37 = .ok (.iadd, 1) := by decide +kernel
theorem dX5_push_38 : decode cX5_push 38 = .ok (.putfield 21, 3) := by decide +kernel
theorem dX5_push_41 : decode cX5_push 41 = .ok (.iconst 1, 1) := by decide +kernel
theorem dX5_push_42 : decode cX5_push 42 = .ok (.ireturn, 1) := by decide +kernel
theorem dX5_shorten_0 : decode cX5_shorten 0 = .ok (.iload_n 1, 1) := by decide +kernel
theorem dX5_shorten_1 : decode cX5_shorten 1 = .ok (.ifCond .lt 16, 3) := by decide +kernel
theorem dX5_shorten_4 : decode cX5_shorten 4 = .ok (.iload_n 1, 1) := by decide +kernel
theorem dX5_shorten_5 : decode cX5_shorten 5 = .ok (.aload_n 0, 1) := by decide +kernel
theorem dX5_shorten_6 : decode cX5_shorten 6 = .ok (.getfield 21, 3) := by decide +kernel
theorem dX5_shorten_9 : decode cX5_shorten 9 = .ok (.if_icmp .ge 8, 3) := by decide +kernel
theorem dX5_shorten_12 : decode cX5_shorten 12 = .ok (.aload_n 0, 1) := by decide +kernel
theorem dX5_shorten_13 : decode cX5_shorten 13 = .ok (.iload_n 1, 1) := by decide +kernel
theorem dX5_shorten_14 : decode cX5_shorten 14 = .ok (.putfield 21, 3) := by decide +kernel
theorem dX5_shorten_17 : decode cX5_shorten 17 = .ok (.return_, 1) := by decide +kernel
theorem dX5_become_0 : decode cX5_become 0 = .ok (.aload_n 1, 1) := by decide +kernel
theorem dX5_become_1 : decode cX5_become 1 = .ok (.aload_n 0, 1) := by decide +kernel
theorem dX5_become_2 : decode cX5_become 2 = .ok (.if_acmp .eq 13, 3) := by decide +kernel
theorem dX5_become_5 : decode cX5_become 5 = .ok (.aload_n 0, 1) := by decide +kernel
theorem dX5_become_6 : decode cX5_become 6 = .ok (.iconst 0, 1) := by decide +kernel
theorem dX5_become_7 : decode cX5_become 7 = .ok (.putfield 21, 3) := by decide +kernel
theorem dX5_become_10 : decode cX5_become 10 = .ok (.aload_n 0, 1) := by decide +kernel
theorem dX5_become_11 : decode cX5_become 11 = .ok (.aload_n 1, 1) := by decide +kernel
theorem dX5_become_12 : decode cX5_become 12 = .ok (.invokevirtual 29, 3) := by decide +kernel
theorem dX5_become_15 : decode cX5_become 15 = .ok (.return_, 1) := by decide +kernel
theorem dX5_extend_0 : decode cX5_extend 0 = .ok (.aload_n 1, 1) := by decide +kernel
theorem dX5_extend_1 : decode cX5_extend 1 = .ok (.getfield 21, 3) := by decide +kernel
theorem dX5_extend_4 : decode cX5_extend 4 = .ok (.istore_n 2, 1) := by decide +kernel
theorem dX5_extend_5 : decode cX5_extend 5 = .ok (.iconst 0, 1) := by decide +kernel
theorem dX5_extend_6 : decode cX5_extend 6 = .ok (.istore_n 3, 1) := by decide +kernel
theorem dX5_extend_7 : decode cX5_extend 7 = .ok (.iload_n 3, 1) := by decide +kernel
theorem dX5_extend_8 : decode cX5_extend 8 = .ok (.iload_n 2, 1) := by decide +kernel
theorem dX5_extend_9 : decode cX5_extend 9 = .ok (.if_icmp .ge 19, 3) := by decide +kernel
theorem dX5_extend_12 : decode cX5_extend 12 = .ok (.aload_n 0, 1) := by decide +kernel
theorem dX5_extend_13 : decode cX5_extend 13 = .ok (.aload_n 1, 1) := by decide +kernel
theorem dX5_extend_14 : decode cX5_extend 14 = .ok (.iload_n 3, 1) := by decide +kernel
theorem dX5_extend_15 : decode cX5_extend 15 = .ok (.invokevirtual 33, 3) := by decide +kernel
theorem dX5_extend_18 : decode cX5_extend 18 = .ok (.invokevirtual 37, 3) := by decide +kernel
theorem dX5_extend_21 : decode cX5_extend 21 = .ok (.pop, 1) := by decide +kernel
theorem dX5_extend_22 : decode cX5_extend 22 = .ok (.iinc 3 1, 3) := by decide +kernel
theorem dX5_extend_25 : decode cX5_extend 25 = .ok (.goto (-18), 3) := by decide +kernel
theorem dX5_extend_28 : decode cX5_extend 28 = .ok (.return_, 1) := by decide +kernel
theorem dX5_isLike_0 : decode cX5_isLike 0 = .ok (.aload_n 0, 1) := by decide +kernel
theorem dX5_isLike_1 : decode cX5_isLike 1 = .ok (.getfield 21, 3) := by decide +kernel
theorem dX5_isLike_4 : decode cX5_isLike 4 = .ok (.aload_n 1, 1) := by decide +kernel
theorem dX5_isLike_5 : decode cX5_isLike 5 = .ok (.getfield 21, 3) := by decide +kernel
theorem dX5_isLike_8 : decode cX5_isLike 8 = .ok (.if_icmp .ne 19, 3) := by decide +kernel
theorem dX5_isLike_11 : decode cX5_isLike 11 = .ok (.aload_n 0, 1) := by decide +kernel
theorem dX5_isLike_12 : decode cX5_isLike 12 = .ok (.aload_n 1, 1) := by decide +kernel
theorem dX5_isLike_13 : decode cX5_isLike 13 = .ok (.invokevirtual 40, 3) := by decide +kernel
theorem dX5_isLike_16 : decode cX5_isLike 16 = .ok (.aload_n 0, 1) := by decide +kernel
theorem dX5_isLike_17 : decode cX5_isLike 17 = .ok (.getfield 21, 3) := by decide +kernel
theorem dX5_isLike_20 : decode cX5_isLike 20 = .ok (.if_icmp .ne 7, 3) := by decide +kernel
theorem dX5_isLike_23 : decode cX5_isLike 23 = .ok (.iconst 1, 1) := by decide +kernel
theorem dX5_isLike_24 : decode cX5_isLike 24 = .ok (.goto 4, 3) := by decide +kernel
theorem dX5_isLike_27 : decode cX5_isLike 27 = .ok (.iconst 0, 1) := by decide +kernel
theorem dX5_isLike_28 : decode cX5_isLike 28 = .ok (.ireturn, 1) := by decide +kernel
theorem dX5_alikeAhead_0 : decode cX5_alikeAhead 0 = .ok (.aload_n 0, 1) := by decide +kernel
theorem dX5_alikeAhead_1 : decode cX5_alikeAhead 1 = .ok (.getfield 21, 3) := by decide +kernel
theorem dX5_alikeAhead_4 : decode cX5_alikeAhead 4 = .ok (.aload_n 1, 1) := by decide +kernel
theorem dX5_alikeAhead_5 : decode cX5_alikeAhead 5 = .ok (.getfield 21, 3) := by decide +kernel
theorem dX5_alikeAhead_8 : decode cX5_alikeAhead 8 = .ok (.invokestatic 44, 3) := by decide +kernel
theorem dX5_alikeAhead_11 : decode cX5_alikeAhead 11 = .ok (.istore_n 2, 1) := by decide +kernel
theorem dX5_alikeAhead_12 : decode cX5_alikeAhead 12 = .ok (.iconst 0, 1) := by decide +kernel
theorem dX5_alikeAhead_13 : decode cX5_alikeAhead 13 = .ok (.istore_n 3, 1) := by decide +kernel
theorem dX5_alikeAhead_14 : decode cX5_alikeAhead 14 = .ok (.iload_n 3, 1) := by decide +kernel
theorem dX5_alikeAhead_15 : decode cX5_alikeAhead 15 = .ok (.iload_n 2, 1) := by decide +kernel
theorem dX5_alikeAhead_16 : decode cX5_alikeAhead 16 = .ok (.if_icmp .ge 24, 3) := by decide +kernel
theorem dX5_alikeAhead_19 : decode cX5_alikeAhead 19 = .ok (.aload_n 0, 1) := by decide +kernel
theorem dX5_alikeAhead_20 : decode cX5_alikeAhead 20 = .ok (.iload_n 3, 1) := by decide +kernel
theorem dX5_alikeAhead_21 : decode cX5_alikeAhead 21 = .ok (.invokevirtual 33, 3) := by decide +kernel
theorem dX5_alikeAhead_24 : decode cX5_alikeAhead 24 = .ok (.aload_n 1, 1) := by decide +kernel
theorem dX5_alikeAhead_25 : decode cX5_alikeAhead 25 = .ok (.iload_n 3, 1) := by decide +kernel
theorem dX5_alikeAhead_26 : decode cX5_alikeAhead 26 = .ok (.invokevirtual 33, 3) := by decide +kernel
theorem dX5_alikeAhead_29 : decode cX5_alikeAhead 29 = .ok (.if_icmp .eq 5, 3) := by decide +kernel
theorem dX5_alikeAhead_32 : decode cX5_alikeAhead 32 = .ok (.iload_n 3, 1) := by decide +kernel
theorem dX5_alikeAhead_33 : decode cX5_alikeAhead 33 = .ok (.ireturn, 1) := by decide +kernel
theorem dX5_alikeAhead_34 : decode cX5_alikeAhead 34 = .ok (.iinc 3 1, 3) := by decide +kernel
theorem dX5_alikeAhead_37 : decode cX5_alikeAhead 37 = .ok (.goto (-23), 3) := by decide +kernel
theorem dX5_alikeAhead_40 : decode cX5_alikeAhead 40 = .ok (.iload_n 2, 1) := by decide +kernel
theorem dX5_alikeAhead_41 : decode cX5_alikeAhead 41 = .ok (.ireturn, 1) := by decide +kernel
theorem dX5_alikeBehind_0 : decode cX5_alikeBehind 0 = .ok (.aload_n 0, 1) := by decide +kernel
theorem dX5_alikeBehind_1 : decode cX5_alikeBehind 1 = .ok (.getfield 21, 3) := by decide +kernel
theorem dX5_alikeBehind_4 : decode cX5_alikeBehind 4 = .ok (.aload_n 1, 1) := by decide +kernel
theorem dX5_alikeBehind_5 : decode cX5_alikeBehind 5 = .ok (.getfield 21, 3) := by decide +kernel
theorem dX5_alikeBehind_8 : decode cX5_alikeBehind 8 = .ok (.invokestatic 44, 3) := by decide +kernel
theorem dX5_alikeBehind_11 : decode cX5_alikeBehind 11 = .ok (.istore_n 2, 1) := by decide +kernel
theorem dX5_alikeBehind_12 : decode cX5_alikeBehind 12 = .ok (.iconst 0, 1) := by decide +kernel
theorem dX5_alikeBehind_13 : decode cX5_alikeBehind 13 = .ok (.istore_n 3, 1) := by decide +kernel
theorem dX5_alikeBehind_14 : decode cX5_alikeBehind 14 = .ok (.iload_n 3, 1) := by decide +kernel
theorem dX5_alikeBehind_15 : decode cX5_alikeBehind 15 = .ok (.iload_n 2, 1) := by decide +kernel
theorem dX5_alikeBehind_16 : decode cX5_alikeBehind 16 = .ok (.if_icmp .ge 38, 3) := by decide +kernel
theorem dX5_alikeBehind_19 : decode cX5_alikeBehind 19 = .ok (.aload_n 0, 1) := by decide +kernel
theorem dX5_alikeBehind_20 : decode cX5_alikeBehind 20 = .ok (.aload_n 0, 1) := by decide +kernel
theorem dX5_alikeBehind_21 : decode cX5_alikeBehind 21 = .ok (.getfield 21, 3) := by decide +kernel
theorem dX5_alikeBehind_24 : decode cX5_alikeBehind 24 = .ok (.iconst 1, 1) := by decide +kernel
theorem dX5_alikeBehind_25 : decode cX5_alikeBehind 25 = .ok (.isub, 1) := by decide +kernel
theorem dX5_alikeBehind_26 : decode cX5_alikeBehind 26 = .ok (.iload_n 3, 1) := by decide +kernel
theorem dX5_alikeBehind_27 : decode cX5_alikeBehind 27 = .ok (.isub, 1) := by decide +kernel
theorem dX5_alikeBehind_28 : decode cX5_alikeBehind 28 = .ok (.invokevirtual 33, 3) := by decide +kernel
theorem dX5_alikeBehind_31 : decode cX5_alikeBehind 31 = .ok (.aload_n 1, 1) := by decide +kernel
theorem dX5_alikeBehind_32 : decode cX5_alikeBehind 32 = .ok (.aload_n 1, 1) := by decide +kernel
theorem dX5_alikeBehind_33 : decode cX5_alikeBehind 33 = .ok (.getfield 21, 3) := by decide +kernel
theorem dX5_alikeBehind_36 : decode cX5_alikeBehind 36 = .ok (.iconst 1, 1) := by decide +kernel
theorem dX5_alikeBehind_37 : decode cX5_alikeBehind 37 = .ok (.isub, 1) := by decide +kernel
theorem dX5_alikeBehind_38 : decode cX5_alikeBehind 38 = .ok (.iload_n 3, 1) := by decide +kernel
theorem dX5_alikeBehind_39 : decode cX5_alikeBehind 39 = .ok (.isub, 1) := by decide +kernel
theorem dX5_alikeBehind_40 : decode cX5_alikeBehind 40 = .ok (.invokevirtual 33, 3) := by decide +kernel
theorem dX5_alikeBehind_43 : decode cX5_alikeBehind 43 = .ok (.if_icmp .eq 5, 3) := by decide +kernel
theorem dX5_alikeBehind_46 : decode cX5_alikeBehind 46 = .ok (.iload_n 3, 1) := by decide +kernel
theorem dX5_alikeBehind_47 : decode cX5_alikeBehind 47 = .ok (.ireturn, 1) := by decide +kernel
theorem dX5_alikeBehind_48 : decode cX5_alikeBehind 48 = .ok (.iinc 3 1, 3) := by decide +kernel
theorem dX5_alikeBehind_51 : decode cX5_alikeBehind 51 = .ok (.goto (-37), 3) := by decide +kernel
theorem dX5_alikeBehind_54 : decode cX5_alikeBehind 54 = .ok (.iload_n 2, 1) := by decide +kernel
theorem dX5_alikeBehind_55 : decode cX5_alikeBehind 55 = .ok (.ireturn, 1) := by decide +kernel
theorem dX6_init_0 : decode cX6_init 0 = .ok (.aload_n 0, 1) := by decide +kernel
theorem dX6_init_1 : decode cX6_init 1 = .ok (.invokespecial 3, 3) := by decide +kernel
theorem dX6_init_4 : decode cX6_init 4 = .ok (.aload_n 0, 1) := by decide +kernel
theorem dX6_init_5 : decode cX6_init 5 = .ok (.new 9, 3) := by decide +kernel
theorem dX6_init_8 : decode cX6_init 8 = .ok (.dup, 1) := by decide +kernel
theorem dX6_init_9 : decode cX6_init 9 = .ok (.bipush 32, 2) := by decide +kernel
theorem dX6_init_11 : decode cX6_init 11 = .ok (.invokespecial 11, 3) := by decide +kernel
theorem dX6_init_14 : decode cX6_init 14 = .ok (.putfield 14, 3) := by decide +kernel
theorem dX6_init_17 : decode cX6_init 17 = .ok (.aload_n 0, 1) := by decide +kernel
theorem dX6_init_18 : decode cX6_init 18 = .ok (.new 9, 3) := by decide +kernel
theorem dX6_init_21 : decode cX6_init 21 = .ok (.dup, 1) := by decide +kernel
theorem dX6_init_22 : decode cX6_init 22 = .ok (.sipush 128, 3) := by decide +kernel
theorem dX6_init_25 : decode cX6_init 25 = .ok (.invokespecial 11, 3) := by decide +kernel
theorem dX6_init_28 : decode cX6_init 28 = .ok (.putfield 20, 3) := by decide +kernel
theorem dX6_init_31 : decode cX6_init 31 = .ok (.return_, 1) := by decide +kernel
theorem dX6_make_0 : decode cX6_make 0 = .ok (.aload 4, 2) := by decide +kernel
theorem dX6_make_2 : decode cX6_make 2 = .ok (.invokevirtual 23, 3) := by decide +kernel
theorem dX6_make_5 : decode cX6_make 5 = .ok (.iload_n 1, 1) := by decide +kernel
theorem dX6_make_6 : decode cX6_make 6 = .ok (.tableswitch 122 0 5 #[38, 49, 67, 83, 101, 111], 38) := by decide +kernel
theorem dX6_make_44 : decode cX6_make 44 = .ok (.aload_n 0, 1) := by decide +kernel
theorem dX6_make_45 : decode cX6_make 45 = .ok (.aload_n 2, 1) := by decide +kernel
theorem dX6_make_46 : decode cX6_make 46 = .ok (.aload_n 3, 1) := by decide +kernel
theorem dX6_make_47 : decode cX6_make 47 = .ok (.aload 4, 2) := by decide +kernel
theorem dX6_make_49 : decode cX6_make 49 = .ok (.invokevirtual 26, 3) := by decide +kernel
theorem dX6_make_52 : decode cX6_make 52 = .ok (.goto 76, 3) := by decide +kernel
theorem dX6_make_55 : decode cX6_make 55 = .ok (.aload_n 0, 1) := by decide +kernel
theorem dX6_make_56 : decode cX6_make 56 = .ok (.aload_n 2, 1) := by decide +kernel
theorem dX6_make_57 : decode cX6_make 57 = .ok (.aload_n 3, 1) := by decide +kernel
theorem dX6_make_58 : decode cX6_make 58 = .ok (.aload 4, 2) := by decide +kernel
theorem dX6_make_60 : decode cX6_make 60 = .ok (.invokevirtual 26, 3) := by decide +kernel
theorem dX6_make_63 : decode cX6_make 63 = .ok (.aload_n 0, 1) := by decide +kernel
theorem dX6_make_64 : decode cX6_make 64 = .ok (.aload_n 2, 1) := by decide +kernel
theorem dX6_make_65 : decode cX6_make 65 = .ok (.aload 4, 2) := by decide +kernel
theorem dX6_make_67 : decode cX6_make 67 = .ok (.invokevirtual 30, 3) := by decide +kernel
theorem dX6_make_70 : decode cX6_make 70 = .ok (.goto 58, 3) := by decide +kernel
theorem dX6_make_73 : decode cX6_make 73 = .ok (.aload 4, 2) := by decide +kernel
theorem dX6_make_75 : decode cX6_make 75 = .ok (.aload_n 3, 1) := by decide +kernel
theorem dX6_make_76 : decode cX6_make 76 = .ok (.invokevirtual 34, 3) := by decide +kernel
theorem dX6_make_79 : decode cX6_make 79 = .ok (.aload_n 0, 1) := by decide +kernel
theorem dX6_make_80 : decode cX6_make 80 = .ok (.aload_n 2, 1) := by decide +kernel
theorem dX6_make_81 : decode cX6_make 81 = .ok (.aload 4, 2) := by decide +kernel
theorem dX6_make_83 : decode cX6_make 83 = .ok (.invokevirtual 38, 3) := by decide +kernel
theorem dX6_make_86 : decode cX6_make 86 = .ok (.goto 42, 3) := by decide +kernel
theorem dX6_make_89 : decode cX6_make 89 = .ok (.aload_n 0, 1) := by decide +kernel
theorem dX6_make_90 : decode cX6_make 90 = .ok (.aload_n 2, 1) := by decide +kernel
theorem dX6_make_91 : decode cX6_make 91 = .ok (.aload_n 3, 1) := by decide +kernel
theorem dX6_make_92 : decode cX6_make 92 = .ok (.aload 4, 2) := by decide +kernel
theorem dX6_make_94 : decode cX6_make 94 = .ok (.invokevirtual 26, 3) := by decide +kernel
theorem dX6_make_97 : decode cX6_make 97 = .ok (.aload_n 0, 1) := by decide +kernel
theorem dX6_make_98 : decode cX6_make 98 = .ok (.aload_n 2, 1) := by decide +kernel
theorem dX6_make_99 : decode cX6_make 99 = .ok (.aload 4, 2) := by decide +kernel
theorem dX6_make_101 : decode cX6_make 101 = .ok (.invokevirtual 41, 3) := by decide +kernel
theorem dX6_make_104 : decode cX6_make 104 = .ok (.goto 24, 3) := by decide +kernel
theorem dX6_make_107 : decode cX6_make 107 = .ok (.aload_n 0, 1) := by decide +kernel
theorem dX6_make_108 : decode cX6_make 108 = .ok (.aload_n 3, 1) := by decide +kernel
theorem dX6_make_109 : decode cX6_make 109 = .ok (.aload 4, 2) := by decide +kernel
theorem dX6_make_111 : decode cX6_make 111 = .ok (.invokevirtual 44, 3) := by decide +kernel
theorem dX6_make_114 : decode cX6_make 114 = .ok (.goto 14, 3) := by decide +kernel
theorem dX6_make_117 : decode cX6_make 117 = .ok (.aload_n 0, 1) := by decide +kernel
theorem dX6_make_118 : decode cX6_make 118 = .ok (.aload_n 2, 1) := by decide +kernel
theorem dX6_make_119 : decode cX6_make 119 = .ok (.aload_n 3, 1) := by decide +kernel
theorem dX6_make_120 : decode cX6_make 120 = .ok (.aload 4, 2) := by decide +kernel
theorem dX6_make_122 : decode cX6_make 122 = .ok (.invokevirtual 48, 3) := by decide +kernel
theorem dX6_make_125 : decode cX6_make 125 = .ok (.goto 3, 3) := by decide +kernel
theorem dX6_make_128 : decode cX6_make 128 = .ok (.return_, 1) := by decide +kernel
theorem dX6_makeOfBoth_0 : decode cX6_makeOfBoth 0 = .ok (.aload_n 0, 1) := by decide +kernel
theorem dX6_makeOfBoth_1 : decode cX6_makeOfBoth 1 = .ok (.getfield 14, 3) := by decide +kernel
theorem dX6_makeOfBoth_4 : decode cX6_makeOfBoth 4 = .ok (.aload_n 3, 1) := by decide +kernel
theorem dX6_makeOfBoth_5 : decode cX6_makeOfBoth 5 = .ok (.invokevirtual 51, 3) := by decide +kernel
theorem dX6_makeOfBoth_8 : decode cX6_makeOfBoth 8 = .ok (.aload_n 0, 1) := by decide +kernel
theorem dX6_makeOfBoth_9 : decode cX6_makeOfBoth 9 = .ok (.getfield 14, 3) := by decide +kernel
theorem dX6_makeOfBoth_12 : decode cX6_makeOfBoth 12 = .ok (.aload 4, 2) := by decide +kernel
theorem dX6_makeOfBoth_14 : decode cX6_makeOfBoth 14 = .ok (.invokevirtual 34, 3) := by decide +kernel
theorem dX6_makeOfBoth_17 : decode cX6_makeOfBoth 17 = .ok (.aload_n 0, 1) := by decide +kernel
theorem dX6_makeOfBoth_18 : decode cX6_makeOfBoth 18 = .ok (.iload_n 1, 1) := by decide +kernel
theorem dX6_makeOfBoth_19 : decode cX6_makeOfBoth 19 = .ok (.aload_n 2, 1) := by decide +kernel
theorem dX6_makeOfBoth_20 : decode cX6_makeOfBoth 20 = .ok (.aload_n 0, 1) := by decide +kernel
theorem dX6_makeOfBoth_21 : decode cX6_makeOfBoth 21 = .ok (.getfield 14, 3) := by decide +kernel
theorem dX6_makeOfBoth_24 : decode cX6_makeOfBoth 24 = .ok (.aload 5, 2) := by decide +kernel
theorem dX6_makeOfBoth_26 : decode cX6_makeOfBoth 26 = .ok (.invokevirtual 54, 3) := by decide +kernel
theorem dX6_makeOfBoth_29 : decode cX6_makeOfBoth 29 = .ok (.return_, 1) := by decide +kernel
theorem dX6_goThrough_0 : decode cX6_goThrough 0 = .ok (.iconst 0, 1) := by decide +kernel
theorem dX6_goThrough_1 : decode cX6_goThrough 1 = .ok (.istore 4, 2) := by decide +kernel
theorem dX6_goThrough_3 : decode cX6_goThrough 3 = .ok (.iload 4, 2) := by decide +kernel
theorem dX6_goThrough_5 : decode cX6_goThrough 5 = .ok (.aload_n 1, 1) := by decide +kernel
theorem dX6_goThrough_6 : decode cX6_goThrough 6 = .ok (.invokevirtual 58, 3) := by decide +kernel
theorem dX6_goThrough_9 : decode cX6_goThrough 9 = .ok (.if_icmp .ge 33, 3) := by decide +kernel
theorem dX6_goThrough_12 : decode cX6_goThrough 12 = .ok (.aload_n 0, 1) := by decide +kernel
theorem dX6_goThrough_13 : decode cX6_goThrough 13 = .ok (.aload_n 1, 1) := by decide +kernel
theorem dX6_goThrough_14 : decode cX6_goThrough 14 = .ok (.iload 4, 2) := by decide +kernel
theorem dX6_goThrough_16 : decode cX6_goThrough 16 = .ok (.invokevirtual 62, 3) := by decide +kernel
theorem dX6_goThrough_19 : decode cX6_goThrough 19 = .ok (.aload_n 2, 1) := by decide +kernel
theorem dX6_goThrough_20 : decode cX6_goThrough 20 = .ok (.aload_n 3, 1) := by decide +kernel
theorem dX6_goThrough_21 : decode cX6_goThrough 21 = .ok (.aload_n 0, 1) := by decide +kernel
theorem dX6_goThrough_22 : decode cX6_goThrough 22 = .ok (.getfield 20, 3) := by decide +kernel
theorem dX6_goThrough_25 : decode cX6_goThrough 25 = .ok (.invokevirtual 54, 3) := by decide +kernel
theorem dX6_goThrough_28 : decode cX6_goThrough 28 = .ok (.aload_n 3, 1) := by decide +kernel
theorem dX6_goThrough_29 : decode cX6_goThrough 29 = .ok (.aload_n 0, 1) := by decide +kernel
theorem dX6_goThrough_30 : decode cX6_goThrough 30 = .ok (.getfield 20, 3) := by decide +kernel
theorem dX6_goThrough_33 : decode cX6_goThrough 33 = .ok (.invokevirtual 51, 3) := by decide +kernel
theorem dX6_goThrough_36 : decode cX6_goThrough 36 = .ok (.iinc 4 1, 3) := by decide +kernel
theorem dX6_goThrough_39 : decode cX6_goThrough 39 = .ok (.goto (-36), 3) := by decide +kernel
theorem dX6_goThrough_42 : decode cX6_goThrough 42 = .ok (.return_, 1) := by decide +kernel
theorem dX6_isSorted_0 : decode cX6_isSorted 0 = .ok (.iconst 1, 1) := by decide +kernel
theorem dX6_isSorted_1 : decode cX6_isSorted 1 = .ok (.istore_n 3, 1) := by decide +kernel
theorem dX6_isSorted_2 : decode cX6_isSorted 2 = .ok (.iload_n 3, 1) := by decide +kernel
theorem dX6_isSorted_3 : decode cX6_isSorted 3 = .ok (.aload_n 2, 1) := by decide +kernel
theorem dX6_isSorted_4 : decode cX6_isSorted 4 = .ok (.invokevirtual 58, 3) := by decide +kernel
theorem dX6_isSorted_7 : decode cX6_isSorted 7 = .ok (.if_icmp .ge 47, 3) := by decide +kernel
theorem dX6_isSorted_10 : decode cX6_isSorted 10 = .ok (.aload_n 2, 1) := by decide +kernel
theorem dX6_isSorted_11 : decode cX6_isSorted 11 = .ok (.iload_n 3, 1) := by decide +kernel
theorem dX6_isSorted_12 : decode cX6_isSorted 12 = .ok (.invokevirtual 62, 3) := by decide +kernel
theorem dX6_isSorted_15 : decode cX6_isSorted 15 = .ok (.istore 4, 2) := by decide +kernel
theorem dX6_isSorted_17 : decode cX6_isSorted 17 = .ok (.aload_n 1, 1) := by decide +kernel
theorem dX6_isSorted_18 : decode cX6_isSorted 18 = .ok (.iload 4, 2) := by decide +kernel
theorem dX6_isSorted_20 : decode cX6_isSorted 20 = .ok (.invokevirtual 66, 3) := by decide +kernel
theorem dX6_isSorted_23 : decode cX6_isSorted 23 = .ok (.ifCond .ne 25, 3) := by decide +kernel
theorem dX6_isSorted_26 : decode cX6_isSorted 26 = .ok (.aload_n 1, 1) := by decide +kernel
theorem dX6_isSorted_27 : decode cX6_isSorted 27 = .ok (.aload_n 2, 1) := by decide +kernel
theorem dX6_isSorted_28 : decode cX6_isSorted 28 = .ok (.iload_n 3, 1) := by decide +kernel
theorem dX6_isSorted_29 : decode cX6_isSorted 29 = .ok (.iconst 1, 1) := by decide +kernel
theorem dX6_isSorted_30 : decode cX6_isSorted 30 = .ok (.isub, 1) := by decide +kernel
theorem dX6_isSorted_31 : decode cX6_isSorted 31 = .ok (.invokevirtual 62, 3) := by decide +kernel
theorem dX6_isSorted_34 : decode cX6_isSorted 34 = .ok (.invokevirtual 72, 3) := by decide +kernel
theorem dX6_isSorted_37 : decode cX6_isSorted 37 = .ok (.aload_n 1, 1) := by decide +kernel
theorem dX6_isSorted_38 : decode cX6_isSorted 38 = .ok (.iload 4, 2) := by decide +kernel
theorem dX6_isSorted_40 : decode cX6_isSorted 40 = .ok (.invokevirtual 72, 3) := by decide +kernel
theorem dX6_isSorted_43 : decode cX6_isSorted 43 = .ok (.if_icmp .le 5, 3) := by decide +kernel
theorem dX6_isSorted_46 : decode cX6_isSorted 46 = .ok (.iconst 0, 1) := by decide +kernel
theorem dX6_isSorted_47 : decode cX6_isSorted 47 = .ok (.ireturn, 1) := by decide +kernel
theorem dX6_isSorted_48 : decode cX6_isSorted 48 = .ok (.iinc 3 1, 3) := by decide +kernel
theorem dX6_isSorted_51 : decode cX6_isSorted 51 = .ok (.goto (-49), 3) := by decide +kernel
theorem dX6_isSorted_54 : decode cX6_isSorted 54 = .ok (.iconst 1, 1) := by decide +kernel
theorem dX6_isSorted_55 : decode cX6_isSorted 55 = .ok (.ireturn, 1) := by decide +kernel
theorem dX6_takeApart_0 : decode cX6_takeApart 0 = .ok (.iconst 0, 1) := by decide +kernel
theorem dX6_takeApart_1 : decode cX6_takeApart 1 = .ok (.istore 4, 2) := by decide +kernel
theorem dX6_takeApart_3 : decode cX6_takeApart 3 = .ok (.iload 4, 2) := by decide +kernel
theorem dX6_takeApart_5 : decode cX6_takeApart 5 = .ok (.aload_n 2, 1) := by decide +kernel
theorem dX6_takeApart_6 : decode cX6_takeApart 6 = .ok (.invokevirtual 58, 3) := by decide +kernel
theorem dX6_takeApart_9 : decode cX6_takeApart 9 = .ok (.if_icmp .ge 50, 3) := by decide +kernel
theorem dX6_takeApart_12 : decode cX6_takeApart 12 = .ok (.aload_n 2, 1) := by decide +kernel
theorem dX6_takeApart_13 : decode cX6_takeApart 13 = .ok (.iload 4, 2) := by decide +kernel
theorem dX6_takeApart_15 : decode cX6_takeApart 15 = .ok (.invokevirtual 62, 3) := by decide +kernel
theorem dX6_takeApart_18 : decode cX6_takeApart 18 = .ok (.istore 5, 2) := by decide +kernel
theorem dX6_takeApart_20 : decode cX6_takeApart 20 = .ok (.iconst 0, 1) := by decide +kernel
theorem dX6_takeApart_21 : decode cX6_takeApart 21 = .ok (.istore 6, 2) := by decide +kernel
theorem dX6_takeApart_23 : decode cX6_takeApart 23 = .ok (.iload 6, 2) := by decide +kernel
theorem dX6_takeApart_25 : decode cX6_takeApart 25 = .ok (.aload_n 1, 1) := by decide +kernel
theorem dX6_takeApart_26 : decode cX6_takeApart 26 = .ok (.iload 5, 2) := by decide +kernel
theorem dX6_takeApart_28 : decode cX6_takeApart 28 = .ok (.invokevirtual 75, 3) := by decide +kernel
theorem dX6_takeApart_31 : decode cX6_takeApart 31 = .ok (.if_icmp .ge 22, 3) := by decide +kernel
theorem dX6_takeApart_34 : decode cX6_takeApart 34 = .ok (.aload_n 3, 1) := by decide +kernel
theorem dX6_takeApart_35 : decode cX6_takeApart 35 = .ok (.aload_n 1, 1) := by decide +kernel
theorem dX6_takeApart_36 : decode cX6_takeApart 36 = .ok (.iload 5, 2) := by decide +kernel
theorem dX6_takeApart_38 : decode cX6_takeApart 38 = .ok (.iload 6, 2) := by decide +kernel
theorem dX6_takeApart_40 : decode cX6_takeApart 40 = .ok (.invokevirtual 78, 3) := by decide +kernel
theorem dX6_takeApart_43 : decode cX6_takeApart 43 = .ok (.invokevirtual 82, 3) := by decide +kernel
theorem dX6_takeApart_46 : decode cX6_takeApart 46 = .ok (.pop, 1) := by decide +kernel
theorem dX6_takeApart_47 : decode cX6_takeApart 47 = .ok (.iinc 6 1, 3) := by decide +kernel
theorem dX6_takeApart_50 : decode cX6_takeApart 50 = .ok (.goto (-27), 3) := by decide +kernel
theorem dX6_takeApart_53 : decode cX6_takeApart 53 = .ok (.iinc 4 1, 3) := by decide +kernel
theorem dX6_takeApart_56 : decode cX6_takeApart 56 = .ok (.goto (-53), 3) := by decide +kernel
theorem dX6_takeApart_59 : decode cX6_takeApart 59 = .ok (.aload_n 0, 1) := by decide +kernel
theorem dX6_takeApart_60 : decode cX6_takeApart 60 = .ok (.aload_n 1, 1) := by decide +kernel
theorem dX6_takeApart_61 : decode cX6_takeApart 61 = .ok (.aload_n 3, 1) := by decide +kernel
theorem dX6_takeApart_62 : decode cX6_takeApart 62 = .ok (.invokevirtual 38, 3) := by decide +kernel
theorem dX6_takeApart_65 : decode cX6_takeApart 65 = .ok (.return_, 1) := by decide +kernel
theorem dX6_sort_0 : decode cX6_sort 0 = .ok (.iconst 1, 1) := by decide +kernel
theorem dX6_sort_1 : decode cX6_sort 1 = .ok (.istore_n 3, 1) := by decide +kernel
theorem dX6_sort_2 : decode cX6_sort 2 = .ok (.iload_n 3, 1) := by decide +kernel
theorem dX6_sort_3 : decode cX6_sort 3 = .ok (.aload_n 2, 1) := by decide +kernel
theorem dX6_sort_4 : decode cX6_sort 4 = .ok (.invokevirtual 58, 3) := by decide +kernel
theorem dX6_sort_7 : decode cX6_sort 7 = .ok (.if_icmp .ge 65, 3) := by decide +kernel
theorem dX6_sort_10 : decode cX6_sort 10 = .ok (.aload_n 1, 1) := by decide +kernel
theorem dX6_sort_11 : decode cX6_sort 11 = .ok (.aload_n 2, 1) := by decide +kernel
theorem dX6_sort_12 : decode cX6_sort 12 = .ok (.iload_n 3, 1) := by decide +kernel
theorem dX6_sort_13 : decode cX6_sort 13 = .ok (.invokevirtual 62, 3) := by decide +kernel
theorem dX6_sort_16 : decode cX6_sort 16 = .ok (.invokevirtual 72, 3) := by decide +kernel
theorem dX6_sort_19 : decode cX6_sort 19 = .ok (.istore 4, 2) := by decide +kernel
theorem dX6_sort_21 : decode cX6_sort 21 = .ok (.iload 4, 2) := by decide +kernel
theorem dX6_sort_23 : decode cX6_sort 23 = .ok (.ifCond .ne 6, 3) := by decide +kernel
theorem dX6_sort_26 : decode cX6_sort 26 = .ok (.goto 40, 3) := by decide +kernel
theorem dX6_sort_29 : decode cX6_sort 29 = .ok (.iload_n 3, 1) := by decide +kernel
theorem dX6_sort_30 : decode cX6_sort 30 = .ok (.istore 5, 2) := by decide +kernel
theorem dX6_sort_32 : decode cX6_sort 32 = .ok (.iload 5, 2) := by decide +kernel
theorem dX6_sort_34 : decode cX6_sort 34 = .ok (.ifCond .le 32, 3) := by decide +kernel
theorem dX6_sort_37 : decode cX6_sort 37 = .ok (.aload_n 1, 1) := by decide +kernel
theorem dX6_sort_38 : decode cX6_sort 38 = .ok (.aload_n 2, 1) := by decide +kernel
theorem dX6_sort_39 : decode cX6_sort 39 = .ok (.iload 5, 2) := by decide +kernel
theorem dX6_sort_41 : decode cX6_sort 41 = .ok (.iconst 1, 1) := by decide +kernel
theorem dX6_sort_42 : decode cX6_sort 42 = .ok (.isub, 1) := by decide +kernel
theorem dX6_sort_43 : decode cX6_sort 43 = .ok (.invokevirtual 62, 3) := by decide +kernel
theorem dX6_sort_46 : decode cX6_sort 46 = .ok (.invokevirtual 72, 3) := by decide +kernel
theorem dX6_sort_49 : decode cX6_sort 49 = .ok (.iload 4, 2) := by decide +kernel
theorem dX6_sort_51 : decode cX6_sort 51 = .ok (.if_icmp .le 15, 3) := by decide +kernel
theorem dX6_sort_54 : decode cX6_sort 54 = .ok (.iinc 5 (-1), 3) := by decide +kernel
theorem dX6_sort_57 : decode cX6_sort 57 = .ok (.aload_n 2, 1) := by decide +kernel
theorem dX6_sort_58 : decode cX6_sort 58 = .ok (.iload 5, 2) := by decide +kernel
theorem dX6_sort_60 : decode cX6_sort 60 = .ok (.invokevirtual 85, 3) := by decide +kernel
theorem dX6_sort_63 : decode cX6_sort 63 = .ok (.goto (-31), 3) := by decide +kernel
theorem dX6_sort_66 : decode cX6_sort 66 = .ok (.iinc 3 1, 3) := by decide +kernel
theorem dX6_sort_69 : decode cX6_sort 69 = .ok (.goto (-67), 3) := by decide +kernel
theorem dX6_sort_72 : decode cX6_sort 72 = .ok (.return_, 1) := by decide +kernel
theorem dX6_join_0 : decode cX6_join 0 = .ok (.aload_n 2, 1) := by decide +kernel
theorem dX6_join_1 : decode cX6_join 1 = .ok (.invokevirtual 58, 3) := by decide +kernel
theorem dX6_join_4 : decode cX6_join 4 = .ok (.istore_n 3, 1) := by decide +kernel
theorem dX6_join_5 : decode cX6_join 5 = .ok (.bipush (-9), 2) := by decide +kernel
theorem dX6_join_7 : decode cX6_join 7 = .ok (.istore 4, 2) := by decide +kernel
theorem dX6_join_9 : decode cX6_join 9 = .ok (.bipush (-9), 2) := by decide +kernel
theorem dX6_join_11 : decode cX6_join 11 = .ok (.istore 5, 2) := by decide +kernel
theorem dX6_join_13 : decode cX6_join 13 = .ok (.iconst 0, 1) := by decide +kernel
theorem dX6_join_14 : decode cX6_join 14 = .ok (.istore 6, 2) := by decide +kernel
theorem dX6_join_16 : decode cX6_join 16 = .ok (.iconst 0, 1) := by decide +kernel
theorem dX6_join_17 : decode cX6_join 17 = .ok (.istore 7, 2) := by decide +kernel
theorem dX6_join_19 : decode cX6_join 19 = .ok (.iload 7, 2) := by decide +kernel
theorem dX6_join_21 : decode cX6_join 21 = .ok (.iload_n 3, 1) := by decide +kernel
theorem dX6_join_22 : decode cX6_join 22 = .ok (.if_icmp .ge 124, 3) := by decide +kernel
theorem dX6_join_25 : decode cX6_join 25 = .ok (.aload_n 2, 1) := by decide +kernel
theorem dX6_join_26 : decode cX6_join 26 = .ok (.iload 7, 2) := by decide +kernel
theorem dX6_join_28 : decode cX6_join 28 = .ok (.invokevirtual 62, 3) := by decide +kernel
theorem dX6_join_31 : decode cX6_join 31 = .ok (.istore 8, 2) := by decide +kernel
theorem dX6_join_33 : decode cX6_join 33 = .ok (.aload_n 1, 1) := by decide +kernel
theorem dX6_join_34 : decode cX6_join 34 = .ok (.iload 8, 2) := by decide +kernel
theorem dX6_join_36 : decode cX6_join 36 = .ok (.invokevirtual 72, 3) := by decide +kernel
theorem dX6_join_39 : decode cX6_join 39 = .ok (.istore 9, 2) := by decide +kernel
theorem dX6_join_41 : decode cX6_join 41 = .ok (.iload 4, 2) := by decide +kernel
theorem dX6_join_43 : decode cX6_join 43 = .ok (.bipush (-9), 2) := by decide +kernel
theorem dX6_join_45 : decode cX6_join 45 = .ok (.if_icmp .eq 10, 3) := by decide +kernel
theorem dX6_join_48 : decode cX6_join 48 = .ok (.iload 5, 2) := by decide +kernel
theorem dX6_join_50 : decode cX6_join 50 = .ok (.iload 9, 2) := by decide +kernel
theorem dX6_join_52 : decode cX6_join 52 = .ok (.if_icmp .lt 7, 3) := by decide +kernel
theorem dX6_join_55 : decode cX6_join 55 = .ok (.iconst 1, 1) := by decide +kernel
theorem dX6_join_56 : decode cX6_join 56 = .ok (.goto 4, 3) := by decide +kernel
theorem dX6_join_59 : decode cX6_join 59 = .ok (.iconst 0, 1) := by decide +kernel
theorem dX6_join_60 : decode cX6_join 60 = .ok (.istore 10, 2) := by decide +kernel
theorem dX6_join_62 : decode cX6_join 62 = .ok (.iload 10, 2) := by decide +kernel
theorem dX6_join_64 : decode cX6_join 64 = .ok (.ifCond .eq 8, 3) := by decide +kernel
theorem dX6_join_67 : decode cX6_join 67 = .ok (.bipush (-9), 2) := by decide +kernel
theorem dX6_join_69 : decode cX6_join 69 = .ok (.goto 15, 3) := by decide +kernel
theorem dX6_join_72 : decode cX6_join 72 = .ok (.aload_n 1, 1) := by decide +kernel
theorem dX6_join_73 : decode cX6_join 73 = .ok (.aload_n 2, 1) := by decide +kernel
theorem dX6_join_74 : decode cX6_join 74 = .ok (.iload 4, 2) := by decide +kernel
theorem dX6_join_76 : decode cX6_join 76 = .ok (.invokevirtual 62, 3) := by decide +kernel
theorem dX6_join_79 : decode cX6_join 79 = .ok (.iload 8, 2) := by decide +kernel
theorem dX6_join_81 : decode cX6_join 81 = .ok (.invokevirtual 88, 3) := by decide +kernel
theorem dX6_join_84 : decode cX6_join 84 = .ok (.istore 11, 2) := by decide +kernel
theorem dX6_join_86 : decode cX6_join 86 = .ok (.iload 11, 2) := by decide +kernel
theorem dX6_join_88 : decode cX6_join 88 = .ok (.bipush (-9), 2) := by decide +kernel
theorem dX6_join_90 : decode cX6_join 90 = .ok (.if_icmp .eq 14, 3) := by decide +kernel
theorem dX6_join_93 : decode cX6_join 93 = .ok (.aload_n 2, 1) := by decide +kernel
theorem dX6_join_94 : decode cX6_join 94 = .ok (.iload 4, 2) := by decide +kernel
theorem dX6_join_96 : decode cX6_join 96 = .ok (.iload 11, 2) := by decide +kernel
theorem dX6_join_98 : decode cX6_join 98 = .ok (.invokevirtual 91, 3) := by decide +kernel
theorem dX6_join_101 : decode cX6_join 101 = .ok (.goto 39, 3) := by decide +kernel
theorem dX6_join_104 : decode cX6_join 104 = .ok (.aload_n 2, 1) := by decide +kernel
theorem dX6_join_105 : decode cX6_join 105 = .ok (.iload 6, 2) := by decide +kernel
theorem dX6_join_107 : decode cX6_join 107 = .ok (.iload 8, 2) := by decide +kernel
theorem dX6_join_109 : decode cX6_join 109 = .ok (.invokevirtual 91, 3) := by decide +kernel
theorem dX6_join_112 : decode cX6_join 112 = .ok (.iload 9, 2) := by decide +kernel
theorem dX6_join_114 : decode cX6_join 114 = .ok (.ifCond .ne 14, 3) := by decide +kernel
theorem dX6_join_117 : decode cX6_join 117 = .ok (.iload 6, 2) := by decide +kernel
theorem dX6_join_119 : decode cX6_join 119 = .ok (.istore 4, 2) := by decide +kernel
theorem dX6_join_121 : decode cX6_join 121 = .ok (.bipush (-9), 2) := by decide +kernel
theorem dX6_join_123 : decode cX6_join 123 = .ok (.istore 5, 2) := by decide +kernel
theorem dX6_join_125 : decode cX6_join 125 = .ok (.goto 12, 3) := by decide +kernel
theorem dX6_join_128 : decode cX6_join 128 = .ok (.iload 5, 2) := by decide +kernel
theorem dX6_join_130 : decode cX6_join 130 = .ok (.iload 9, 2) := by decide +kernel
theorem dX6_join_132 : decode cX6_join 132 = .ok (.invokestatic 95, 3) := by decide +kernel
theorem dX6_join_135 : decode cX6_join 135 = .ok (.istore 5, 2) := by decide +kernel
theorem dX6_join_137 : decode cX6_join 137 = .ok (.iinc 6 1, 3) := by decide +kernel
theorem dX6_join_140 : decode cX6_join 140 = .ok (.iinc 7 1, 3) := by decide +kernel
theorem dX6_join_143 : decode cX6_join 143 = .ok (.goto (-124), 3) := by decide +kernel
theorem dX6_join_146 : decode cX6_join 146 = .ok (.aload_n 2, 1) := by decide +kernel
theorem dX6_join_147 : decode cX6_join 147 = .ok (.iload 6, 2) := by decide +kernel
theorem dX6_join_149 : decode cX6_join 149 = .ok (.invokevirtual 100, 3) := by decide +kernel
theorem dX6_join_152 : decode cX6_join 152 = .ok (.return_, 1) := by decide +kernel
theorem dX6_dropMarks_0 : decode cX6_dropMarks 0 = .ok (.aload_n 2, 1) := by decide +kernel
theorem dX6_dropMarks_1 : decode cX6_dropMarks 1 = .ok (.invokevirtual 58, 3) := by decide +kernel
theorem dX6_dropMarks_4 : decode cX6_dropMarks 4 = .ok (.istore_n 3, 1) := by decide +kernel
theorem dX6_dropMarks_5 : decode cX6_dropMarks 5 = .ok (.iconst 0, 1) := by decide +kernel
theorem dX6_dropMarks_6 : decode cX6_dropMarks 6 = .ok (.istore 4, 2) := by decide +kernel
theorem dX6_dropMarks_8 : decode cX6_dropMarks 8 = .ok (.iconst 0, 1) := by decide +kernel
theorem dX6_dropMarks_9 : decode cX6_dropMarks 9 = .ok (.istore 5, 2) := by decide +kernel
theorem dX6_dropMarks_11 : decode cX6_dropMarks 11 = .ok (.iload 5, 2) := by decide +kernel
theorem dX6_dropMarks_13 : decode cX6_dropMarks 13 = .ok (.iload_n 3, 1) := by decide +kernel
theorem dX6_dropMarks_14 : decode cX6_dropMarks 14 = .ok (.if_icmp .ge 37, 3) := by decide +kernel
theorem dX6_dropMarks_17 : decode cX6_dropMarks 17 = .ok (.aload_n 2, 1) := by decide +kernel
theorem dX6_dropMarks_18 : decode cX6_dropMarks 18 = .ok (.iload 5, 2) := by decide +kernel
theorem dX6_dropMarks_20 : decode cX6_dropMarks 20 = .ok (.invokevirtual 62, 3) := by decide +kernel
theorem dX6_dropMarks_23 : decode cX6_dropMarks 23 = .ok (.istore 6, 2) := by decide +kernel
theorem dX6_dropMarks_25 : decode cX6_dropMarks 25 = .ok (.aload_n 1, 1) := by decide +kernel
theorem dX6_dropMarks_26 : decode cX6_dropMarks 26 = .ok (.iload 6, 2) := by decide +kernel
theorem dX6_dropMarks_28 : decode cX6_dropMarks 28 = .ok (.invokevirtual 66, 3) := by decide +kernel
theorem dX6_dropMarks_31 : decode cX6_dropMarks 31 = .ok (.ifCond .eq 14, 3) := by decide +kernel
theorem dX6_dropMarks_34 : decode cX6_dropMarks 34 = .ok (.aload_n 2, 1) := by decide +kernel
theorem dX6_dropMarks_35 : decode cX6_dropMarks 35 = .ok (.iload 4, 2) := by decide +kernel
theorem dX6_dropMarks_37 : decode cX6_dropMarks 37 = .ok (.iload 6, 2) := by decide +kernel
theorem dX6_dropMarks_39 : decode cX6_dropMarks 39 = .ok (.invokevirtual 91, 3) := by decide +kernel
theorem dX6_dropMarks_42 : decode cX6_dropMarks 42 = .ok (.iinc 4 1, 3) := by decide +kernel
theorem dX6_dropMarks_45 : decode cX6_dropMarks 45 = .ok (.iinc 5 1, 3) := by decide +kernel
theorem dX6_dropMarks_48 : decode cX6_dropMarks 48 = .ok (.goto (-37), 3) := by decide +kernel
theorem dX6_dropMarks_51 : decode cX6_dropMarks 51 = .ok (.aload_n 2, 1) := by decide +kernel
theorem dX6_dropMarks_52 : decode cX6_dropMarks 52 = .ok (.iload 4, 2) := by decide +kernel
theorem dX6_dropMarks_54 : decode cX6_dropMarks 54 = .ok (.invokevirtual 100, 3) := by decide +kernel
theorem dX6_dropMarks_57 : decode cX6_dropMarks 57 = .ok (.return_, 1) := by decide +kernel
theorem dX6_turn_0 : decode cX6_turn 0 = .ok (.aload_n 1, 1) := by decide +kernel
theorem dX6_turn_1 : decode cX6_turn 1 = .ok (.invokevirtual 58, 3) := by decide +kernel
theorem dX6_turn_4 : decode cX6_turn 4 = .ok (.iconst 1, 1) := by decide +kernel
theorem dX6_turn_5 : decode cX6_turn 5 = .ok (.isub, 1) := by decide +kernel
theorem dX6_turn_6 : decode cX6_turn 6 = .ok (.istore_n 3, 1) := by decide +kernel
theorem dX6_turn_7 : decode cX6_turn 7 = .ok (.iload_n 3, 1) := by decide +kernel
theorem dX6_turn_8 : decode cX6_turn 8 = .ok (.ifCond .lt 19, 3) := by decide +kernel
theorem dX6_turn_11 : decode cX6_turn 11 = .ok (.aload_n 2, 1) := by decide +kernel
theorem dX6_turn_12 : decode cX6_turn 12 = .ok (.aload_n 1, 1) := by decide +kernel
theorem dX6_turn_13 : decode cX6_turn 13 = .ok (.iload_n 3, 1) := by decide +kernel
theorem dX6_turn_14 : decode cX6_turn 14 = .ok (.invokevirtual 62, 3) := by decide +kernel
theorem dX6_turn_17 : decode cX6_turn 17 = .ok (.invokevirtual 82, 3) := by decide +kernel
theorem dX6_turn_20 : decode cX6_turn 20 = .ok (.pop, 1) := by decide +kernel
theorem dX6_turn_21 : decode cX6_turn 21 = .ok (.iinc 3 (-1), 3) := by decide +kernel
theorem dX6_turn_24 : decode cX6_turn 24 = .ok (.goto (-17), 3) := by decide +kernel
theorem dX6_turn_27 : decode cX6_turn 27 = .ok (.return_, 1) := by decide +kernel
theorem dX6_takeFirst_0 : decode cX6_takeFirst 0 = .ok (.iconst 0, 1) := by decide +kernel
theorem dX6_takeFirst_1 : decode cX6_takeFirst 1 = .ok (.istore 4, 2) := by decide +kernel
theorem dX6_takeFirst_3 : decode cX6_takeFirst 3 = .ok (.iconst 0, 1) := by decide +kernel
theorem dX6_takeFirst_4 : decode cX6_takeFirst 4 = .ok (.istore 5, 2) := by decide +kernel
theorem dX6_takeFirst_6 : decode cX6_takeFirst 6 = .ok (.iload 5, 2) := by decide +kernel
theorem dX6_takeFirst_8 : decode cX6_takeFirst 8 = .ok (.aload_n 2, 1) := by decide +kernel
theorem dX6_takeFirst_9 : decode cX6_takeFirst 9 = .ok (.invokevirtual 58, 3) := by decide +kernel
theorem dX6_takeFirst_12 : decode cX6_takeFirst 12 = .ok (.if_icmp .ge 43, 3) := by decide +kernel
theorem dX6_takeFirst_15 : decode cX6_takeFirst 15 = .ok (.aload_n 2, 1) := by decide +kernel
theorem dX6_takeFirst_16 : decode cX6_takeFirst 16 = .ok (.iload 5, 2) := by decide +kernel
theorem dX6_takeFirst_18 : decode cX6_takeFirst 18 = .ok (.invokevirtual 62, 3) := by decide +kernel
theorem dX6_takeFirst_21 : decode cX6_takeFirst 21 = .ok (.istore 6, 2) := by decide +kernel
theorem dX6_takeFirst_23 : decode cX6_takeFirst 23 = .ok (.aload_n 1, 1) := by decide +kernel
theorem dX6_takeFirst_24 : decode cX6_takeFirst 24 = .ok (.iload 6, 2) := by decide +kernel
theorem dX6_takeFirst_26 : decode cX6_takeFirst 26 = .ok (.invokevirtual 66, 3) := by decide +kernel
theorem dX6_takeFirst_29 : decode cX6_takeFirst 29 = .ok (.ifCond .eq 6, 3) := by decide +kernel
theorem dX6_takeFirst_32 : decode cX6_takeFirst 32 = .ok (.iinc 4 1, 3) := by decide +kernel
theorem dX6_takeFirst_35 : decode cX6_takeFirst 35 = .ok (.iload 4, 2) := by decide +kernel
theorem dX6_takeFirst_37 : decode cX6_takeFirst 37 = .ok (.iconst 1, 1) := by decide +kernel
theorem dX6_takeFirst_38 : decode cX6_takeFirst 38 = .ok (.if_icmp .le 4, 3) := by decide +kernel
theorem dX6_takeFirst_41 : decode cX6_takeFirst 41 = .ok (.return_, 1) := by decide +kernel
theorem dX6_takeFirst_42 : decode cX6_takeFirst 42 = .ok (.aload_n 3, 1) := by decide +kernel
theorem dX6_takeFirst_43 : decode cX6_takeFirst 43 = .ok (.iload 6, 2) := by decide +kernel
theorem dX6_takeFirst_45 : decode cX6_takeFirst 45 = .ok (.invokevirtual 82, 3) := by decide +kernel
theorem dX6_takeFirst_48 : decode cX6_takeFirst 48 = .ok (.pop, 1) := by decide +kernel
theorem dX6_takeFirst_49 : decode cX6_takeFirst 49 = .ok (.iinc 5 1, 3) := by decide +kernel
theorem dX6_takeFirst_52 : decode cX6_takeFirst 52 = .ok (.goto (-46), 3) := by decide +kernel
theorem dX6_takeFirst_55 : decode cX6_takeFirst 55 = .ok (.return_, 1) := by decide +kernel
theorem dX7_init_0 : decode cX7_init 0 = .ok (.aload_n 0, 1) := by decide +kernel
theorem dX7_init_1 : decode cX7_init 1 = .ok (.invokespecial 3, 3) := by decide +kernel
theorem dX7_init_4 : decode cX7_init 4 = .ok (.aload_n 0, 1) := by decide +kernel
theorem dX7_init_5 : decode cX7_init 5 = .ok (.sipush 129, 3) := by decide +kernel
theorem dX7_init_8 : decode cX7_init 8 = .ok (.newarray .long, 2) := by decide +kernel
theorem dX7_init_10 : decode cX7_init 10 = .ok (.putfield 9, 3) := by decide +kernel
theorem dX7_init_13 : decode cX7_init 13 = .ok (.return_, 1) := by decide +kernel
theorem dX7_waysToSpell_0 : decode cX7_waysToSpell 0 = .ok (.aload_n 1, 1) := by decide +kernel
theorem dX7_waysToSpell_1 : decode cX7_waysToSpell 1 = .ok (.invokevirtual 15, 3) := by decide +kernel
theorem dX7_waysToSpell_4 : decode cX7_waysToSpell 4 = .ok (.sipush 128, 3) := by decide +kernel
theorem dX7_waysToSpell_7 : decode cX7_waysToSpell 7 = .ok (.invokestatic 21, 3) := by decide +kernel
theorem dX7_waysToSpell_10 : decode cX7_waysToSpell 10 = .ok (.istore_n 3, 1) := by decide +kernel
theorem dX7_waysToSpell_11 : decode cX7_waysToSpell 11 = .ok (.aload_n 0, 1) := by decide +kernel
theorem dX7_waysToSpell_12 : decode cX7_waysToSpell 12 = .ok (.getfield 9, 3) := by decide +kernel
theorem dX7_waysToSpell_15 : decode cX7_waysToSpell 15 = .ok (.iconst 0, 1) := by decide +kernel
theorem dX7_waysToSpell_16 : decode cX7_waysToSpell 16 = .ok (.lconst 1, 1) := by decide +kernel
theorem dX7_waysToSpell_17 : decode cX7_waysToSpell 17 = .ok (.lastore, 1) := by decide +kernel
theorem dX7_waysToSpell_18 : decode cX7_waysToSpell 18 = .ok (.iconst 1, 1) := by decide +kernel
theorem dX7_waysToSpell_19 : decode cX7_waysToSpell 19 = .ok (.istore 4, 2) := by decide +kernel
theorem dX7_waysToSpell_21 : decode cX7_waysToSpell 21 = .ok (.iload 4, 2) := by decide +kernel
theorem dX7_waysToSpell_23 : decode cX7_waysToSpell 23 = .ok (.iload_n 3, 1) := by decide +kernel
theorem dX7_waysToSpell_24 : decode cX7_waysToSpell 24 = .ok (.if_icmp .gt 24, 3) := by decide +kernel
theorem dX7_waysToSpell_27 : decode cX7_waysToSpell 27 = .ok (.aload_n 0, 1) := by decide +kernel
theorem dX7_waysToSpell_28 : decode cX7_waysToSpell 28 = .ok (.getfield 9, 3) := by decide +kernel
theorem dX7_waysToSpell_31 : decode cX7_waysToSpell 31 = .ok (.iload 4, 2) := by decide +kernel
theorem dX7_waysToSpell_33 : decode cX7_waysToSpell 33 = .ok (.aload_n 0, 1) := by decide +kernel
theorem dX7_waysToSpell_34 : decode cX7_waysToSpell 34 = .ok (.iload 4, 2) := by decide +kernel
theorem dX7_waysToSpell_36 : decode cX7_waysToSpell 36 = .ok (.aload_n 1, 1) := by decide +kernel
theorem dX7_waysToSpell_37 : decode cX7_waysToSpell 37 = .ok (.aload_n 2, 1) := by decide +kernel
theorem dX7_waysToSpell_38 : decode cX7_waysToSpell 38 = .ok (.invokevirtual 27, 3) := by decide +kernel
theorem dX7_waysToSpell_41 : decode cX7_waysToSpell 41 = .ok (.lastore, 1) := by decide +kernel
theorem dX7_waysToSpell_42 : decode cX7_waysToSpell 42 = .ok (.iinc 4 1, 3) := by decide +kernel
theorem dX7_waysToSpell_45 : decode cX7_waysToSpell 45 = .ok (.goto (-24), 3) := by decide +kernel
theorem dX7_waysToSpell_48 : decode cX7_waysToSpell 48 = .ok (.iload_n 3, 1) := by decide +kernel
theorem dX7_waysToSpell_49 : decode cX7_waysToSpell 49 = .ok (.ifCond .ge 7, 3) := by decide +kernel
theorem dX7_waysToSpell_52 : decode cX7_waysToSpell 52 = .ok (.lconst 0, 1) := by decide +kernel
theorem dX7_waysToSpell_53 : decode cX7_waysToSpell 53 = .ok (.goto 9, 3) := by decide +kernel
theorem dX7_waysToSpell_56 : decode cX7_waysToSpell 56 = .ok (.aload_n 0, 1) := by decide +kernel
theorem dX7_waysToSpell_57 : decode cX7_waysToSpell 57 = .ok (.getfield 9, 3) := by decide +kernel
theorem dX7_waysToSpell_60 : decode cX7_waysToSpell 60 = .ok (.iload_n 3, 1) := by decide +kernel
theorem dX7_waysToSpell_61 : decode cX7_waysToSpell 61 = .ok (.laload, 1) := by decide +kernel
theorem dX7_waysToSpell_62 : decode cX7_waysToSpell 62 = .ok (.lreturn, 1) := by decide +kernel
theorem dX7_waysUpTo_0 : decode cX7_waysUpTo 0 = .ok (.lconst 0, 1) := by decide +kernel
theorem dX7_waysUpTo_1 : decode cX7_waysUpTo 1 = .ok (.lstore 4, 2) := by decide +kernel
theorem dX7_waysUpTo_3 : decode cX7_waysUpTo 3 = .ok (.iconst 0, 1) := by decide +kernel
theorem dX7_waysUpTo_4 : decode cX7_waysUpTo 4 = .ok (.istore 6, 2) := by decide +kernel
theorem dX7_waysUpTo_6 : decode cX7_waysUpTo 6 = .ok (.iload 6, 2) := by decide +kernel
theorem dX7_waysUpTo_8 : decode cX7_waysUpTo 8 = .ok (.aload_n 3, 1) := by decide +kernel
theorem dX7_waysUpTo_9 : decode cX7_waysUpTo 9 = .ok (.invokevirtual 31, 3) := by decide +kernel
theorem dX7_waysUpTo_12 : decode cX7_waysUpTo 12 = .ok (.if_icmp .ge 64, 3) := by decide +kernel
theorem dX7_waysUpTo_15 : decode cX7_waysUpTo 15 = .ok (.iload_n 1, 1) := by decide +kernel
theorem dX7_waysUpTo_16 : decode cX7_waysUpTo 16 = .ok (.aload_n 3, 1) := by decide +kernel
theorem dX7_waysUpTo_17 : decode cX7_waysUpTo 17 = .ok (.iload 6, 2) := by decide +kernel
theorem dX7_waysUpTo_19 : decode cX7_waysUpTo 19 = .ok (.invokevirtual 36, 3) := by decide +kernel
theorem dX7_waysUpTo_22 : decode cX7_waysUpTo 22 = .ok (.isub, 1) := by decide +kernel
theorem dX7_waysUpTo_23 : decode cX7_waysUpTo 23 = .ok (.istore 7, 2) := by decide +kernel
theorem dX7_waysUpTo_25 : decode cX7_waysUpTo 25 = .ok (.iload 7, 2) := by decide +kernel
theorem dX7_waysUpTo_27 : decode cX7_waysUpTo 27 = .ok (.ifCond .lt 43, 3) := by decide +kernel
theorem dX7_waysUpTo_30 : decode cX7_waysUpTo 30 = .ok (.iload 7, 2) := by decide +kernel
theorem dX7_waysUpTo_32 : decode cX7_waysUpTo 32 = .ok (.aload_n 0, 1) := by decide +kernel
theorem dX7_waysUpTo_33 : decode cX7_waysUpTo 33 = .ok (.getfield 9, 3) := by decide +kernel
theorem dX7_waysUpTo_36 : decode cX7_waysUpTo 36 = .ok (.arraylength, 1) := by decide +kernel
theorem dX7_waysUpTo_37 : decode cX7_waysUpTo 37 = .ok (.if_icmp .ge 33, 3) := by decide +kernel
theorem dX7_waysUpTo_40 : decode cX7_waysUpTo 40 = .ok (.aload_n 3, 1) := by decide +kernel
theorem dX7_waysUpTo_41 : decode cX7_waysUpTo 41 = .ok (.iload 6, 2) := by decide +kernel
theorem dX7_waysUpTo_43 : decode cX7_waysUpTo 43 = .ok (.aload_n 2, 1) := by decide +kernel
theorem dX7_waysUpTo_44 : decode cX7_waysUpTo 44 = .ok (.iload 7, 2) := by decide +kernel
theorem dX7_waysUpTo_46 : decode cX7_waysUpTo 46 = .ok (.invokevirtual 40, 3) := by decide +kernel
theorem dX7_waysUpTo_49 : decode cX7_waysUpTo 49 = .ok (.ifCond .eq 21, 3) := by decide +kernel
theorem dX7_waysUpTo_52 : decode cX7_waysUpTo 52 = .ok (.lload 4, 2) := by decide +kernel
theorem dX7_waysUpTo_54 : decode cX7_waysUpTo 54 = .ok (.aload_n 0, 1) := by decide +kernel
theorem dX7_waysUpTo_55 : decode cX7_waysUpTo 55 = .ok (.getfield 9, 3) := by decide +kernel
theorem dX7_waysUpTo_58 : decode cX7_waysUpTo 58 = .ok (.iload 7, 2) := by decide +kernel
theorem dX7_waysUpTo_60 : decode cX7_waysUpTo 60 = .ok (.laload, 1) := by decide +kernel
theorem dX7_waysUpTo_61 : decode cX7_waysUpTo 61 = .ok (.ladd, 1) := by decide +kernel
theorem dX7_waysUpTo_62 : decode cX7_waysUpTo 62 = .ok (.ldc2_w 44, 3) := by decide +kernel
theorem dX7_waysUpTo_65 : decode cX7_waysUpTo 65 = .ok (.invokestatic 46, 3) := by decide +kernel
theorem dX7_waysUpTo_68 : decode cX7_waysUpTo 68 = .ok (.lstore 4, 2) := by decide +kernel
theorem dX7_waysUpTo_70 : decode cX7_waysUpTo 70 = .ok (.iinc 6 1, 3) := by decide +kernel
theorem dX7_waysUpTo_73 : decode cX7_waysUpTo 73 = .ok (.goto (-67), 3) := by decide +kernel
theorem dX7_waysUpTo_76 : decode cX7_waysUpTo 76 = .ok (.lload 4, 2) := by decide +kernel
theorem dX7_waysUpTo_78 : decode cX7_waysUpTo 78 = .ok (.lreturn, 1) := by decide +kernel
