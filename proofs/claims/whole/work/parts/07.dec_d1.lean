theorem dX9_init_0 : decode cX9_init 0 = .ok (.aload_n 0, 1) := by decide +kernel
theorem dX9_init_1 : decode cX9_init 1 = .ok (.invokespecial 1, 3) := by decide +kernel
theorem dX9_init_4 : decode cX9_init 4 = .ok (.aload_n 0, 1) := by decide +kernel
theorem dX9_init_5 : decode cX9_init 5 = .ok (.bipush 24, 2) := by decide +kernel
theorem dX9_init_7 : decode cX9_init 7 = .ok (.newarray .int, 2) := by decide +kernel
theorem dX9_init_9 : decode cX9_init 9 = .ok (.putfield 7, 3) := by decide +kernel
theorem dX9_init_12 : decode cX9_init 12 = .ok (.aload_n 0, 1) := by decide +kernel
theorem dX9_init_13 : decode cX9_init 13 = .ok (.bipush 24, 2) := by decide +kernel
theorem dX9_init_15 : decode cX9_init 15 = .ok (.newarray .int, 2) := by decide +kernel
theorem dX9_init_17 : decode cX9_init 17 = .ok (.putfield 13, 3) := by decide +kernel
theorem dX9_init_20 : decode cX9_init 20 = .ok (.aload_n 0, 1) := by decide +kernel
theorem dX9_init_21 : decode cX9_init 21 = .ok (.bipush 24, 2) := by decide +kernel
theorem dX9_init_23 : decode cX9_init 23 = .ok (.newarray .int, 2) := by decide +kernel
theorem dX9_init_25 : decode cX9_init 25 = .ok (.putfield 16, 3) := by decide +kernel
theorem dX9_init_28 : decode cX9_init 28 = .ok (.aload_n 0, 1) := by decide +kernel
theorem dX9_init_29 : decode cX9_init 29 = .ok (.bipush 24, 2) := by decide +kernel
theorem dX9_init_31 : decode cX9_init 31 = .ok (.newarray .int, 2) := by decide +kernel
theorem dX9_init_33 : decode cX9_init 33 = .ok (.putfield 19, 3) := by decide +kernel
theorem dX9_init_36 : decode cX9_init 36 = .ok (.aload_n 0, 1) := by decide +kernel
theorem dX9_init_37 : decode cX9_init 37 = .ok (.bipush 24, 2) := by decide +kernel
theorem dX9_init_39 : decode cX9_init 39 = .ok (.newarray .int, 2) := by decide +kernel
theorem dX9_init_41 : decode cX9_init 41 = .ok (.putfield 22, 3) := by decide +kernel
theorem dX9_init_44 : decode cX9_init 44 = .ok (.aload_n 0, 1) := by decide +kernel
theorem dX9_init_45 : decode cX9_init 45 = .ok (.bipush 96, 2) := by decide +kernel
theorem dX9_init_47 : decode cX9_init 47 = .ok (.newarray .int, 2) := by decide +kernel
theorem dX9_init_49 : decode cX9_init 49 = .ok (.putfield 25, 3) := by decide +kernel
theorem dX9_init_52 : decode cX9_init 52 = .ok (.aload_n 0, 1) := by decide +kernel
theorem dX9_init_53 : decode cX9_init 53 = .ok (.sipush 150, 3) := by decide +kernel
theorem dX9_init_56 : decode cX9_init 56 = .ok (.newarray .int, 2) := by decide +kernel
theorem dX9_init_58 : decode cX9_init 58 = .ok (.putfield 28, 3) := by decide +kernel
theorem dX9_init_61 : decode cX9_init 61 = .ok (.aload_n 0, 1) := by decide +kernel
theorem dX9_init_62 : decode cX9_init 62 = .ok (.sipush 193, 3) := by decide +kernel
theorem dX9_init_65 : decode cX9_init 65 = .ok (.newarray .int, 2) := by decide +kernel
theorem dX9_init_67 : decode cX9_init 67 = .ok (.putfield 31, 3) := by decide +kernel
theorem dX9_init_70 : decode cX9_init 70 = .ok (.aload_n 0, 1) := by decide +kernel
theorem dX9_init_71 : decode cX9_init 71 = .ok (.iconst 4, 1) := by decide +kernel
theorem dX9_init_72 : decode cX9_init 72 = .ok (.newarray .int, 2) := by decide +kernel
theorem dX9_init_74 : decode cX9_init 74 = .ok (.putfield 34, 3) := by decide +kernel
theorem dX9_init_77 : decode cX9_init 77 = .ok (.aload_n 0, 1) := by decide +kernel
theorem dX9_init_78 : decode cX9_init 78 = .ok (.bipush 64, 2) := by decide +kernel
theorem dX9_init_80 : decode cX9_init 80 = .ok (.newarray .int, 2) := by decide +kernel
theorem dX9_init_82 : decode cX9_init 82 = .ok (.putfield 37, 3) := by decide +kernel
theorem dX9_init_85 : decode cX9_init 85 = .ok (.aload_n 0, 1) := by decide +kernel
theorem dX9_init_86 : decode cX9_init 86 = .ok (.iconst 4, 1) := by decide +kernel
theorem dX9_init_87 : decode cX9_init 87 = .ok (.newarray .int, 2) := by decide +kernel
theorem dX9_init_89 : decode cX9_init 89 = .ok (.putfield 40, 3) := by decide +kernel
theorem dX9_init_92 : decode cX9_init 92 = .ok (.aload_n 0, 1) := by decide +kernel
theorem dX9_init_93 : decode cX9_init 93 = .ok (.sipush 180, 3) := by decide +kernel
theorem dX9_init_96 : decode cX9_init 96 = .ok (.newarray .int, 2) := by decide +kernel
theorem dX9_init_98 : decode cX9_init 98 = .ok (.putfield 43, 3) := by decide +kernel
theorem dX9_init_101 : decode cX9_init 101 = .ok (.aload_n 0, 1) := by decide +kernel
theorem dX9_init_102 : decode cX9_init 102 = .ok (.sipush 128, 3) := by decide +kernel
theorem dX9_init_105 : decode cX9_init 105 = .ok (.newarray .int, 2) := by decide +kernel
theorem dX9_init_107 : decode cX9_init 107 = .ok (.putfield 46, 3) := by decide +kernel
theorem dX9_init_110 : decode cX9_init 110 = .ok (.aload_n 0, 1) := by decide +kernel
theorem dX9_init_111 : decode cX9_init 111 = .ok (.sipush 128, 3) := by decide +kernel
theorem dX9_init_114 : decode cX9_init 114 = .ok (.newarray .int, 2) := by decide +kernel
theorem dX9_init_116 : decode cX9_init 116 = .ok (.putfield 49, 3) := by decide +kernel
theorem dX9_init_119 : decode cX9_init 119 = .ok (.aload_n 0, 1) := by decide +kernel
theorem dX9_init_120 : decode cX9_init 120 = .ok (.sipush 128, 3) := by decide +kernel
theorem dX9_init_123 : decode cX9_init 123 = .ok (.newarray .int, 2) := by decide +kernel
theorem dX9_init_125 : decode cX9_init 125 = .ok (.putfield 52, 3) := by decide +kernel
theorem dX9_init_128 : decode cX9_init 128 = .ok (.aload_n 0, 1) := by decide +kernel
theorem dX9_init_129 : decode cX9_init 129 = .ok (.bipush 65, 2) := by decide +kernel
theorem dX9_init_131 : decode cX9_init 131 = .ok (.newarray .long, 2) := by decide +kernel
theorem dX9_init_133 : decode cX9_init 133 = .ok (.putfield 55, 3) := by decide +kernel
theorem dX9_init_136 : decode cX9_init 136 = .ok (.aload_n 0, 1) := by decide +kernel
theorem dX9_init_137 : decode cX9_init 137 = .ok (.sipush 148, 3) := by decide +kernel
theorem dX9_init_140 : decode cX9_init 140 = .ok (.newarray .int, 2) := by decide +kernel
theorem dX9_init_142 : decode cX9_init 142 = .ok (.putfield 59, 3) := by decide +kernel
theorem dX9_init_145 : decode cX9_init 145 = .ok (.return_, 1) := by decide +kernel
theorem dX9_in_0 : decode cX9_in 0 = .ok (.iload_n 0, 1) := by decide +kernel
theorem dX9_in_1 : decode cX9_in 1 = .ok (.iload_n 1, 1) := by decide +kernel
theorem dX9_in_2 : decode cX9_in 2 = .ok (.if_icmp .lt 12, 3) := by decide +kernel
theorem dX9_in_5 : decode cX9_in 5 = .ok (.iload_n 0, 1) := by decide +kernel
theorem dX9_in_6 : decode cX9_in 6 = .ok (.iload_n 2, 1) := by decide +kernel
theorem dX9_in_7 : decode cX9_in 7 = .ok (.if_icmp .gt 7, 3) := by decide +kernel
theorem dX9_in_10 : decode cX9_in 10 = .ok (.iconst 1, 1) := by decide +kernel
theorem dX9_in_11 : decode cX9_in 11 = .ok (.goto 4, 3) := by decide +kernel
theorem dX9_in_14 : decode cX9_in 14 = .ok (.iconst 0, 1) := by decide +kernel
theorem dX9_in_15 : decode cX9_in 15 = .ok (.ireturn, 1) := by decide +kernel
theorem dX9_isCode_0 : decode cX9_isCode 0 = .ok (.iload_n 1, 1) := by decide +kernel
theorem dX9_isCode_1 : decode cX9_isCode 1 = .ok (.iconst 0, 1) := by decide +kernel
theorem dX9_isCode_2 : decode cX9_isCode 2 = .ok (.aload_n 0, 1) := by decide +kernel
theorem dX9_isCode_3 : decode cX9_isCode 3 = .ok (.getfield 62, 3) := by decide +kernel
theorem dX9_isCode_6 : decode cX9_isCode 6 = .ok (.iconst 1, 1) := by decide +kernel
theorem dX9_isCode_7 : decode cX9_isCode 7 = .ok (.isub, 1) := by decide +kernel
theorem dX9_isCode_8 : decode cX9_isCode 8 = .ok (.invokestatic 66, 3) := by decide +kernel
theorem dX9_isCode_11 : decode cX9_isCode 11 = .ok (.ireturn, 1) := by decide +kernel
theorem dX9_sortMany_0 : decode cX9_sortMany 0 = .ok (.iconst 0, 1) := by decide +kernel
theorem dX9_sortMany_1 : decode cX9_sortMany 1 = .ok (.istore_n 2, 1) := by decide +kernel
theorem dX9_sortMany_2 : decode cX9_sortMany 2 = .ok (.iconst 0, 1) := by decide +kernel
theorem dX9_sortMany_3 : decode cX9_sortMany 3 = .ok (.istore_n 3, 1) := by decide +kernel
theorem dX9_sortMany_4 : decode cX9_sortMany 4 = .ok (.iload_n 3, 1) := by decide +kernel
theorem dX9_sortMany_5 : decode cX9_sortMany 5 = .ok (.aload_n 0, 1) := by decide +kernel
theorem dX9_sortMany_6 : decode cX9_sortMany 6 = .ok (.getfield 62, 3) := by decide +kernel
theorem dX9_sortMany_9 : decode cX9_sortMany 9 = .ok (.if_icmp .ge 27, 3) := by decide +kernel
theorem dX9_sortMany_12 : decode cX9_sortMany 12 = .ok (.iload_n 2, 1) := by decide +kernel
theorem dX9_sortMany_13 : decode cX9_sortMany 13 = .ok (.aload_n 0, 1) := by decide +kernel
theorem dX9_sortMany_14 : decode cX9_sortMany 14 = .ok (.getfield 7, 3) := by decide +kernel
theorem dX9_sortMany_17 : decode cX9_sortMany 17 = .ok (.iload_n 3, 1) := by decide +kernel
theorem dX9_sortMany_18 : decode cX9_sortMany 18 = .ok (.iaload, 1) := by decide +kernel
theorem dX9_sortMany_19 : decode cX9_sortMany 19 = .ok (.iload_n 1, 1) := by decide +kernel
theorem dX9_sortMany_20 : decode cX9_sortMany 20 = .ok (.if_icmp .ne 7, 3) := by decide +kernel
theorem dX9_sortMany_23 : decode cX9_sortMany 23 = .ok (.iconst 1, 1) := by decide +kernel
theorem dX9_sortMany_24 : decode cX9_sortMany 24 = .ok (.goto 4, 3) := by decide +kernel
theorem dX9_sortMany_27 : decode cX9_sortMany 27 = .ok (.iconst 0, 1) := by decide +kernel
theorem dX9_sortMany_28 : decode cX9_sortMany 28 = .ok (.iadd, 1) := by decide +kernel
theorem dX9_sortMany_29 : decode cX9_sortMany 29 = .ok (.istore_n 2, 1) := by decide +kernel
theorem dX9_sortMany_30 : decode cX9_sortMany 30 = .ok (.iinc 3 1, 3) := by decide +kernel
theorem dX9_sortMany_33 : decode cX9_sortMany 33 = .ok (.goto (-29), 3) := by decide +kernel
theorem dX9_sortMany_36 : decode cX9_sortMany 36 = .ok (.iload_n 2, 1) := by decide +kernel
theorem dX9_sortMany_37 : decode cX9_sortMany 37 = .ok (.ireturn, 1) := by decide +kernel
theorem dX9_pairOf_0 : decode cX9_pairOf 0 = .ok (.bipush (-9), 2) := by decide +kernel
theorem dX9_pairOf_2 : decode cX9_pairOf 2 = .ok (.istore_n 3, 1) := by decide +kernel
theorem dX9_pairOf_3 : decode cX9_pairOf 3 = .ok (.iconst 0, 1) := by decide +kernel
theorem dX9_pairOf_4 : decode cX9_pairOf 4 = .ok (.istore 4, 2) := by decide +kernel
theorem dX9_pairOf_6 : decode cX9_pairOf 6 = .ok (.iload 4, 2) := by decide +kernel
theorem dX9_pairOf_8 : decode cX9_pairOf 8 = .ok (.aload_n 0, 1) := by decide +kernel
theorem dX9_pairOf_9 : decode cX9_pairOf 9 = .ok (.getfield 62, 3) := by decide +kernel
theorem dX9_pairOf_12 : decode cX9_pairOf 12 = .ok (.if_icmp .ge 49, 3) := by decide +kernel
theorem dX9_pairOf_15 : decode cX9_pairOf 15 = .ok (.aload_n 0, 1) := by decide +kernel
theorem dX9_pairOf_16 : decode cX9_pairOf 16 = .ok (.getfield 7, 3) := by decide +kernel
theorem dX9_pairOf_19 : decode cX9_pairOf 19 = .ok (.iload 4, 2) := by decide +kernel
theorem dX9_pairOf_21 : decode cX9_pairOf 21 = .ok (.iaload, 1) := by decide +kernel
theorem dX9_pairOf_22 : decode cX9_pairOf 22 = .ok (.iconst 1, 1) := by decide +kernel
theorem dX9_pairOf_23 : decode cX9_pairOf 23 = .ok (.if_icmp .ne 30, 3) := by decide +kernel
theorem dX9_pairOf_26 : decode cX9_pairOf 26 = .ok (.aload_n 0, 1) := by decide +kernel
theorem dX9_pairOf_27 : decode cX9_pairOf 27 = .ok (.getfield 16, 3) := by decide +kernel
theorem dX9_pairOf_30 : decode cX9_pairOf 30 = .ok (.iload 4, 2) := by decide +kernel
theorem dX9_pairOf_32 : decode cX9_pairOf 32 = .ok (.iaload, 1) := by decide +kernel
theorem dX9_pairOf_33 : decode cX9_pairOf 33 = .ok (.iload_n 1, 1) := by decide +kernel
theorem dX9_pairOf_34 : decode cX9_pairOf 34 = .ok (.if_icmp .ne 19, 3) := by decide +kernel
theorem dX9_pairOf_37 : decode cX9_pairOf 37 = .ok (.aload_n 0, 1) := by decide +kernel
theorem dX9_pairOf_38 : decode cX9_pairOf 38 = .ok (.getfield 19, 3) := by decide +kernel
theorem dX9_pairOf_41 : decode cX9_pairOf 41 = .ok (.iload 4, 2) := by decide +kernel
theorem dX9_pairOf_43 : decode cX9_pairOf 43 = .ok (.iaload, 1) := by decide +kernel
theorem dX9_pairOf_44 : decode cX9_pairOf 44 = .ok (.iload_n 2, 1) := by decide +kernel
theorem dX9_pairOf_45 : decode cX9_pairOf 45 = .ok (.if_icmp .ne 8, 3) := by decide +kernel
theorem dX9_pairOf_48 : decode cX9_pairOf 48 = .ok (.iload 4, 2) := by decide +kernel
theorem dX9_pairOf_50 : decode cX9_pairOf 50 = .ok (.goto 4, 3) := by decide +kernel
theorem dX9_pairOf_53 : decode cX9_pairOf 53 = .ok (.iload_n 3, 1) := by decide +kernel
theorem dX9_pairOf_54 : decode cX9_pairOf 54 = .ok (.istore_n 3, 1) := by decide +kernel
theorem dX9_pairOf_55 : decode cX9_pairOf 55 = .ok (.iinc 4 1, 3) := by decide +kernel
theorem dX9_pairOf_58 : decode cX9_pairOf 58 = .ok (.goto (-52), 3) := by decide +kernel
theorem dX9_pairOf_61 : decode cX9_pairOf 61 = .ok (.iload_n 3, 1) := by decide +kernel
theorem dX9_pairOf_62 : decode cX9_pairOf 62 = .ok (.ireturn, 1) := by decide +kernel
theorem dX9_comes_0 : decode cX9_comes 0 = .ok (.aload_n 0, 1) := by decide +kernel
theorem dX9_comes_1 : decode cX9_comes 1 = .ok (.getfield 62, 3) := by decide +kernel
theorem dX9_comes_4 : decode cX9_comes 4 = .ok (.istore 5, 2) := by decide +kernel
theorem dX9_comes_6 : decode cX9_comes 6 = .ok (.aload_n 0, 1) := by decide +kernel
theorem dX9_comes_7 : decode cX9_comes 7 = .ok (.getfield 7, 3) := by decide +kernel
theorem dX9_comes_10 : decode cX9_comes 10 = .ok (.iload 5, 2) := by decide +kernel
theorem dX9_comes_12 : decode cX9_comes 12 = .ok (.iload_n 1, 1) := by decide +kernel
theorem dX9_comes_13 : decode cX9_comes 13 = .ok (.iastore, 1) := by decide +kernel
theorem dX9_comes_14 : decode cX9_comes 14 = .ok (.aload_n 0, 1) := by decide +kernel
theorem dX9_comes_15 : decode cX9_comes 15 = .ok (.getfield 13, 3) := by decide +kernel
theorem dX9_comes_18 : decode cX9_comes 18 = .ok (.iload 5, 2) := by decide +kernel
theorem dX9_comes_20 : decode cX9_comes 20 = .ok (.iload_n 2, 1) := by decide +kernel
theorem dX9_comes_21 : decode cX9_comes 21 = .ok (.iastore, 1) := by decide +kernel
theorem dX9_comes_22 : decode cX9_comes 22 = .ok (.aload_n 0, 1) := by decide +kernel
theorem dX9_comes_23 : decode cX9_comes 23 = .ok (.getfield 16, 3) := by decide +kernel
theorem dX9_comes_26 : decode cX9_comes 26 = .ok (.iload 5, 2) := by decide +kernel
theorem dX9_comes_28 : decode cX9_comes 28 = .ok (.iload_n 3, 1) := by decide +kernel
theorem dX9_comes_29 : decode cX9_comes 29 = .ok (.iastore, 1) := by decide +kernel
theorem dX9_comes_30 : decode cX9_comes 30 = .ok (.aload_n 0, 1) := by decide +kernel
theorem dX9_comes_31 : decode cX9_comes 31 = .ok (.getfield 19, 3) := by decide +kernel
theorem dX9_comes_34 : decode cX9_comes 34 = .ok (.iload 5, 2) := by decide +kernel
theorem dX9_comes_36 : decode cX9_comes 36 = .ok (.iload 4, 2) := by decide +kernel
theorem dX9_comes_38 : decode cX9_comes 38 = .ok (.iastore, 1) := by decide +kernel
theorem dX9_comes_39 : decode cX9_comes 39 = .ok (.aload_n 0, 1) := by decide +kernel
theorem dX9_comes_40 : decode cX9_comes 40 = .ok (.getfield 22, 3) := by decide +kernel
theorem dX9_comes_43 : decode cX9_comes 43 = .ok (.iload 5, 2) := by decide +kernel
theorem dX9_comes_45 : decode cX9_comes 45 = .ok (.iconst 0, 1) := by decide +kernel
theorem dX9_comes_46 : decode cX9_comes 46 = .ok (.iastore, 1) := by decide +kernel
theorem dX9_comes_47 : decode cX9_comes 47 = .ok (.iload_n 1, 1) := by decide +kernel
theorem dX9_comes_48 : decode cX9_comes 48 = .ok (.ifCond .ne 14, 3) := by decide +kernel
theorem dX9_comes_51 : decode cX9_comes 51 = .ok (.aload_n 0, 1) := by decide +kernel
theorem dX9_comes_52 : decode cX9_comes 52 = .ok (.iload 5, 2) := by decide +kernel
theorem dX9_comes_54 : decode cX9_comes 54 = .ok (.iload 5, 2) := by decide +kernel
theorem dX9_comes_56 : decode cX9_comes 56 = .ok (.invokevirtual 70, 3) := by decide +kernel
theorem dX9_comes_59 : decode cX9_comes 59 = .ok (.goto 53, 3) := by decide +kernel
theorem dX9_comes_62 : decode cX9_comes 62 = .ok (.iconst 0, 1) := by decide +kernel
theorem dX9_comes_63 : decode cX9_comes 63 = .ok (.istore 6, 2) := by decide +kernel
theorem dX9_comes_65 : decode cX9_comes 65 = .ok (.iload 6, 2) := by decide +kernel
theorem dX9_comes_67 : decode cX9_comes 67 = .ok (.aload_n 0, 1) := by decide +kernel
theorem dX9_comes_68 : decode cX9_comes 68 = .ok (.getfield 22, 3) := by decide +kernel
theorem dX9_comes_71 : decode cX9_comes 71 = .ok (.iload_n 3, 1) := by decide +kernel
theorem dX9_comes_72 : decode cX9_comes 72 = .ok (.iaload, 1) := by decide +kernel
theorem dX9_comes_73 : decode cX9_comes 73 = .ok (.if_icmp .ge 26, 3) := by decide +kernel
theorem dX9_comes_76 : decode cX9_comes 76 = .ok (.aload_n 0, 1) := by decide +kernel
theorem dX9_comes_77 : decode cX9_comes 77 = .ok (.iload 5, 2) := by decide +kernel
theorem dX9_comes_79 : decode cX9_comes 79 = .ok (.aload_n 0, 1) := by decide +kernel
theorem dX9_comes_80 : decode cX9_comes 80 = .ok (.getfield 25, 3) := by decide +kernel
theorem dX9_comes_83 : decode cX9_comes 83 = .ok (.iconst 4, 1) := by decide +kernel
theorem dX9_comes_84 : decode cX9_comes 84 = .ok (.iload_n 3, 1) := by decide +kernel
theorem dX9_comes_85 : decode cX9_comes 85 = .ok (.imul, 1) := by decide +kernel
theorem dX9_comes_86 : decode cX9_comes 86 = .ok (.iload 6, 2) := by decide +kernel
theorem dX9_comes_88 : decode cX9_comes 88 = .ok (.iadd, 1) := by decide +kernel
theorem dX9_comes_89 : decode cX9_comes 89 = .ok (.iaload, 1) := by decide +kernel
theorem dX9_comes_90 : decode cX9_comes 90 = .ok (.invokevirtual 70, 3) := by decide +kernel
theorem dX9_comes_93 : decode cX9_comes 93 = .ok (.iinc 6 1, 3) := by decide +kernel
theorem dX9_comes_96 : decode cX9_comes 96 = .ok (.goto (-31), 3) := by decide +kernel
theorem dX9_comes_99 : decode cX9_comes 99 = .ok (.iload_n 1, 1) := by decide +kernel
theorem dX9_comes_100 : decode cX9_comes 100 = .ok (.iconst 3, 1) := by decide +kernel
theorem dX9_comes_101 : decode cX9_comes 101 = .ok (.if_icmp .eq 11, 3) := by decide +kernel
theorem dX9_comes_104 : decode cX9_comes 104 = .ok (.aload_n 0, 1) := by decide +kernel
theorem dX9_comes_105 : decode cX9_comes 105 = .ok (.iload 5, 2) := by decide +kernel
theorem dX9_comes_107 : decode cX9_comes 107 = .ok (.iload 4, 2) := by decide +kernel
theorem dX9_comes_109 : decode cX9_comes 109 = .ok (.invokevirtual 70, 3) := by decide +kernel
theorem dX9_comes_112 : decode cX9_comes 112 = .ok (.aload_n 0, 1) := by decide +kernel
theorem dX9_comes_113 : decode cX9_comes 113 = .ok (.dup, 1) := by decide +kernel
theorem dX9_comes_114 : decode cX9_comes 114 = .ok (.getfield 62, 3) := by decide +kernel
theorem dX9_comes_117 : decode cX9_comes 117 = .ok (.iconst 1, 1) := by decide +kernel
theorem dX9_comes_118 : decode cX9_comes 118 = .ok (.iadd, 1) := by decide +kernel
theorem dX9_comes_119 : decode cX9_comes 119 = .ok (.putfield 62, 3) := by decide +kernel
theorem dX9_comes_122 : decode cX9_comes 122 = .ok (.return_, 1) := by decide +kernel
theorem dX9_comesPiece_0 : decode cX9_comesPiece 0 = .ok (.aload_n 0, 1) := by decide +kernel
theorem dX9_comesPiece_1 : decode cX9_comesPiece 1 = .ok (.getfield 25, 3) := by decide +kernel
theorem dX9_comesPiece_4 : decode cX9_comesPiece 4 = .ok (.iconst 4, 1) := by decide +kernel
theorem dX9_comesPiece_5 : decode cX9_comesPiece 5 = .ok (.iload_n 1, 1) := by decide +kernel
theorem dX9_comesPiece_6 : decode cX9_comesPiece 6 = .ok (.imul, 1) := by decide +kernel
theorem dX9_comesPiece_7 : decode cX9_comesPiece 7 = .ok (.aload_n 0, 1) := by decide +kernel
theorem dX9_comesPiece_8 : decode cX9_comesPiece 8 = .ok (.getfield 22, 3) := by decide +kernel
theorem dX9_comesPiece_11 : decode cX9_comesPiece 11 = .ok (.iload_n 1, 1) := by decide +kernel
theorem dX9_comesPiece_12 : decode cX9_comesPiece 12 = .ok (.iaload, 1) := by decide +kernel
theorem dX9_comesPiece_13 : decode cX9_comesPiece 13 = .ok (.iadd, 1) := by decide +kernel
theorem dX9_comesPiece_14 : decode cX9_comesPiece 14 = .ok (.iload_n 2, 1) := by decide +kernel
theorem dX9_comesPiece_15 : decode cX9_comesPiece 15 = .ok (.iastore, 1) := by decide +kernel
theorem dX9_comesPiece_16 : decode cX9_comesPiece 16 = .ok (.aload_n 0, 1) := by decide +kernel
theorem dX9_comesPiece_17 : decode cX9_comesPiece 17 = .ok (.getfield 22, 3) := by decide +kernel
theorem dX9_comesPiece_20 : decode cX9_comesPiece 20 = .ok (.iload_n 1, 1) := by decide +kernel
theorem dX9_comesPiece_21 : decode cX9_comesPiece 21 = .ok (.dup2, 1) := by decide +kernel
theorem dX9_comesPiece_22 : decode cX9_comesPiece 22 = .ok (.iaload, 1) := by decide +kernel
theorem dX9_comesPiece_23 : decode cX9_comesPiece 23 = .ok (.iconst 1, 1) := by decide +kernel
theorem dX9_comesPiece_24 : decode cX9_comesPiece 24 = .ok (.iadd, 1) := by decide +kernel
theorem dX9_comesPiece_25 : decode cX9_comesPiece 25 = .ok (.iastore, 1) := by decide +kernel
theorem dX9_comesPiece_26 : decode cX9_comesPiece 26 = .ok (.return_, 1) := by decide +kernel
theorem dX9_code_0 : decode cX9_code 0 = .ok (.aload_n 0, 1) := by decide +kernel
theorem dX9_code_1 : decode cX9_code 1 = .ok (.iload_n 1, 1) := by decide +kernel
theorem dX9_code_2 : decode cX9_code 2 = .ok (.invokevirtual 74, 3) := by decide +kernel
theorem dX9_code_5 : decode cX9_code 5 = .ok (.ifCond .eq 13, 3) := by decide +kernel
theorem dX9_code_8 : decode cX9_code 8 = .ok (.iload_n 2, 1) := by decide +kernel
theorem dX9_code_9 : decode cX9_code 9 = .ok (.iconst 0, 1) := by decide +kernel
theorem dX9_code_10 : decode cX9_code 10 = .ok (.bipush 8, 2) := by decide +kernel
theorem dX9_code_12 : decode cX9_code 12 = .ok (.invokestatic 66, 3) := by decide +kernel
theorem dX9_code_15 : decode cX9_code 15 = .ok (.ifCond .ne 5, 3) := by decide +kernel
theorem dX9_code_18 : decode cX9_code 18 = .ok (.iconst (-1), 1) := by decide +kernel
theorem dX9_code_19 : decode cX9_code 19 = .ok (.ireturn, 1) := by decide +kernel
theorem dX9_code_20 : decode cX9_code 20 = .ok (.iload_n 2, 1) := by decide +kernel
theorem dX9_code_21 : decode cX9_code 21 = .ok (.tableswitch 70 0 4 #[35, 42, 49, 56, 63], 35) := by decide +kernel
theorem dX9_code_56 : decode cX9_code 56 = .ok (.aload_n 0, 1) := by decide +kernel
theorem dX9_code_57 : decode cX9_code 57 = .ok (.getfield 13, 3) := by decide +kernel
theorem dX9_code_60 : decode cX9_code 60 = .ok (.iload_n 1, 1) := by decide +kernel
theorem dX9_code_61 : decode cX9_code 61 = .ok (.iaload, 1) := by decide +kernel
theorem dX9_code_62 : decode cX9_code 62 = .ok (.ireturn, 1) := by decide +kernel
theorem dX9_code_63 : decode cX9_code 63 = .ok (.aload_n 0, 1) := by decide +kernel
theorem dX9_code_64 : decode cX9_code 64 = .ok (.getfield 7, 3) := by decide +kernel
theorem dX9_code_67 : decode cX9_code 67 = .ok (.iload_n 1, 1) := by decide +kernel
theorem dX9_code_68 : decode cX9_code 68 = .ok (.iaload, 1) := by decide +kernel
theorem dX9_code_69 : decode cX9_code 69 = .ok (.ireturn, 1) := by decide +kernel
theorem dX9_code_70 : decode cX9_code 70 = .ok (.aload_n 0, 1) := by decide +kernel
theorem dX9_code_71 : decode cX9_code 71 = .ok (.getfield 16, 3) := by decide +kernel
theorem dX9_code_74 : decode cX9_code 74 = .ok (.iload_n 1, 1) := by decide +kernel
theorem dX9_code_75 : decode cX9_code 75 = .ok (.iaload, 1) := by decide +kernel
theorem dX9_code_76 : decode cX9_code 76 = .ok (.ireturn, 1) := by decide +kernel
theorem dX9_code_77 : decode cX9_code 77 = .ok (.aload_n 0, 1) := by decide +kernel
theorem dX9_code_78 : decode cX9_code 78 = .ok (.getfield 19, 3) := by decide +kernel
theorem dX9_code_81 : decode cX9_code 81 = .ok (.iload_n 1, 1) := by decide +kernel
theorem dX9_code_82 : decode cX9_code 82 = .ok (.iaload, 1) := by decide +kernel
theorem dX9_code_83 : decode cX9_code 83 = .ok (.ireturn, 1) := by decide +kernel
theorem dX9_code_84 : decode cX9_code 84 = .ok (.aload_n 0, 1) := by decide +kernel
theorem dX9_code_85 : decode cX9_code 85 = .ok (.getfield 22, 3) := by decide +kernel
theorem dX9_code_88 : decode cX9_code 88 = .ok (.iload_n 1, 1) := by decide +kernel
theorem dX9_code_89 : decode cX9_code 89 = .ok (.iaload, 1) := by decide +kernel
theorem dX9_code_90 : decode cX9_code 90 = .ok (.ireturn, 1) := by decide +kernel
theorem dX9_code_91 : decode cX9_code 91 = .ok (.iload_n 2, 1) := by decide +kernel
theorem dX9_code_92 : decode cX9_code 92 = .ok (.iconst 5, 1) := by decide +kernel
theorem dX9_code_93 : decode cX9_code 93 = .ok (.isub, 1) := by decide +kernel
theorem dX9_code_94 : decode cX9_code 94 = .ok (.aload_n 0, 1) := by decide +kernel
theorem dX9_code_95 : decode cX9_code 95 = .ok (.getfield 22, 3) := by decide +kernel
theorem dX9_code_98 : decode cX9_code 98 = .ok (.iload_n 1, 1) := by decide +kernel
theorem dX9_code_99 : decode cX9_code 99 = .ok (.iaload, 1) := by decide +kernel
theorem dX9_code_100 : decode cX9_code 100 = .ok (.if_icmp .ge 18, 3) := by decide +kernel
theorem dX9_code_103 : decode cX9_code 103 = .ok (.aload_n 0, 1) := by decide +kernel
theorem dX9_code_104 : decode cX9_code 104 = .ok (.getfield 25, 3) := by decide +kernel
theorem dX9_code_107 : decode cX9_code 107 = .ok (.iconst 4, 1) := by decide +kernel
theorem dX9_code_108 : decode cX9_code 108 = .ok (.iload_n 1, 1) := by decide +kernel
theorem dX9_code_109 : decode cX9_code 109 = .ok (.imul, 1) := by decide +kernel
theorem dX9_code_110 : decode cX9_code 110 = .ok (.iload_n 2, 1) := by decide +kernel
theorem dX9_code_111 : decode cX9_code 111 = .ok (.iadd, 1) := by decide +kernel
theorem dX9_code_112 : decode cX9_code 112 = .ok (.iconst 5, 1) := by decide +kernel
theorem dX9_code_113 : decode cX9_code 113 = .ok (.isub, 1) := by decide +kernel
theorem dX9_code_114 : decode cX9_code 114 = .ok (.iaload, 1) := by decide +kernel
theorem dX9_code_115 : decode cX9_code 115 = .ok (.goto 5, 3) := by decide +kernel
theorem dX9_code_118 : decode cX9_code 118 = .ok (.bipush (-9), 2) := by decide +kernel
theorem dX9_code_120 : decode cX9_code 120 = .ok (.ireturn, 1) := by decide +kernel
theorem dX9_pair_0 : decode cX9_pair 0 = .ok (.aload_n 0, 1) := by decide +kernel
theorem dX9_pair_1 : decode cX9_pair 1 = .ok (.iload_n 1, 1) := by decide +kernel
theorem dX9_pair_2 : decode cX9_pair 2 = .ok (.invokevirtual 74, 3) := by decide +kernel
theorem dX9_pair_5 : decode cX9_pair 5 = .ok (.ifCond .eq 20, 3) := by decide +kernel
theorem dX9_pair_8 : decode cX9_pair 8 = .ok (.aload_n 0, 1) := by decide +kernel
theorem dX9_pair_9 : decode cX9_pair 9 = .ok (.iload_n 2, 1) := by decide +kernel
theorem dX9_pair_10 : decode cX9_pair 10 = .ok (.invokevirtual 74, 3) := by decide +kernel
theorem dX9_pair_13 : decode cX9_pair 13 = .ok (.ifCond .eq 12, 3) := by decide +kernel
theorem dX9_pair_16 : decode cX9_pair 16 = .ok (.aload_n 0, 1) := by decide +kernel
theorem dX9_pair_17 : decode cX9_pair 17 = .ok (.iload_n 1, 1) := by decide +kernel
theorem dX9_pair_18 : decode cX9_pair 18 = .ok (.iload_n 2, 1) := by decide +kernel
theorem dX9_pair_19 : decode cX9_pair 19 = .ok (.invokevirtual 78, 3) := by decide +kernel
theorem dX9_pair_22 : decode cX9_pair 22 = .ok (.goto 4, 3) := by decide +kernel
theorem dX9_pair_25 : decode cX9_pair 25 = .ok (.iconst (-1), 1) := by decide +kernel
theorem dX9_pair_26 : decode cX9_pair 26 = .ok (.ireturn, 1) := by decide +kernel
theorem dX9_type_0 : decode cX9_type 0 = .ok (.iload_n 1, 1) := by decide +kernel
theorem dX9_type_1 : decode cX9_type 1 = .ok (.iconst 0, 1) := by decide +kernel
theorem dX9_type_2 : decode cX9_type 2 = .ok (.sipush 255, 3) := by decide +kernel
theorem dX9_type_5 : decode cX9_type 5 = .ok (.invokestatic 66, 3) := by decide +kernel
theorem dX9_type_8 : decode cX9_type 8 = .ok (.ifCond .ne 5, 3) := by decide +kernel
theorem dX9_type_11 : decode cX9_type 11 = .ok (.iconst (-1), 1) := by decide +kernel
theorem dX9_type_12 : decode cX9_type 12 = .ok (.ireturn, 1) := by decide +kernel
theorem dX9_type_13 : decode cX9_type 13 = .ok (.aload_n 0, 1) := by decide +kernel
theorem dX9_type_14 : decode cX9_type 14 = .ok (.getfield 82, 3) := by decide +kernel
theorem dX9_type_17 : decode cX9_type 17 = .ok (.sipush 150, 3) := by decide +kernel
theorem dX9_type_20 : decode cX9_type 20 = .ok (.if_icmp .ne 6, 3) := by decide +kernel
theorem dX9_type_23 : decode cX9_type 23 = .ok (.bipush (-3), 2) := by decide +kernel
theorem dX9_type_25 : decode cX9_type 25 = .ok (.ireturn, 1) := by decide +kernel
theorem dX9_type_26 : decode cX9_type 26 = .ok (.aload_n 0, 1) := by decide +kernel
theorem dX9_type_27 : decode cX9_type 27 = .ok (.getfield 28, 3) := by decide +kernel
theorem dX9_type_30 : decode cX9_type 30 = .ok (.aload_n 0, 1) := by decide +kernel
theorem dX9_type_31 : decode cX9_type 31 = .ok (.getfield 82, 3) := by decide +kernel
theorem dX9_type_34 : decode cX9_type 34 = .ok (.iload_n 1, 1) := by decide +kernel
theorem dX9_type_35 : decode cX9_type 35 = .ok (.iastore, 1) := by decide +kernel
theorem dX9_type_36 : decode cX9_type 36 = .ok (.aload_n 0, 1) := by decide +kernel
theorem dX9_type_37 : decode cX9_type 37 = .ok (.dup, 1) := by decide +kernel
theorem dX9_type_38 : decode cX9_type 38 = .ok (.getfield 82, 3) := by decide +kernel
theorem dX9_type_41 : decode cX9_type 41 = .ok (.iconst 1, 1) := by decide +kernel
theorem dX9_type_42 : decode cX9_type 42 = .ok (.iadd, 1) := by decide +kernel
theorem dX9_type_43 : decode cX9_type 43 = .ok (.putfield 82, 3) := by decide +kernel
theorem dX9_type_46 : decode cX9_type 46 = .ok (.aload_n 0, 1) := by decide +kernel
theorem dX9_type_47 : decode cX9_type 47 = .ok (.getfield 82, 3) := by decide +kernel
theorem dX9_type_50 : decode cX9_type 50 = .ok (.ireturn, 1) := by decide +kernel
theorem dX9_clear_0 : decode cX9_clear 0 = .ok (.aload_n 0, 1) := by decide +kernel
theorem dX9_clear_1 : decode cX9_clear 1 = .ok (.getfield 82, 3) := by decide +kernel
theorem dX9_clear_4 : decode cX9_clear 4 = .ok (.istore_n 1, 1) := by decide +kernel
theorem dX9_clear_5 : decode cX9_clear 5 = .ok (.aload_n 0, 1) := by decide +kernel
theorem dX9_clear_6 : decode cX9_clear 6 = .ok (.iconst 0, 1) := by decide +kernel
theorem dX9_clear_7 : decode cX9_clear 7 = .ok (.putfield 82, 3) := by decide +kernel
theorem dX9_clear_10 : decode cX9_clear 10 = .ok (.iload_n 1, 1) := by decide +kernel
theorem dX9_clear_11 : decode cX9_clear 11 = .ok (.ireturn, 1) := by decide +kernel
theorem dX9_here_0 : decode cX9_here 0 = .ok (.aload_n 0, 1) := by decide +kernel
theorem dX9_here_1 : decode cX9_here 1 = .ok (.getfield 85, 3) := by decide +kernel
theorem dX9_here_4 : decode cX9_here 4 = .ok (.aload_n 0, 1) := by decide +kernel
theorem dX9_here_5 : decode cX9_here 5 = .ok (.getfield 82, 3) := by decide +kernel
theorem dX9_here_8 : decode cX9_here 8 = .ok (.if_icmp .ge 15, 3) := by decide +kernel
theorem dX9_here_11 : decode cX9_here 11 = .ok (.aload_n 0, 1) := by decide +kernel
theorem dX9_here_12 : decode cX9_here 12 = .ok (.getfield 28, 3) := by decide +kernel
theorem dX9_here_15 : decode cX9_here 15 = .ok (.aload_n 0, 1) := by decide +kernel
theorem dX9_here_16 : decode cX9_here 16 = .ok (.getfield 85, 3) := by decide +kernel
theorem dX9_here_19 : decode cX9_here 19 = .ok (.iaload, 1) := by decide +kernel
theorem dX9_here_20 : decode cX9_here 20 = .ok (.goto 5, 3) := by decide +kernel
theorem dX9_here_23 : decode cX9_here 23 = .ok (.bipush (-9), 2) := by decide +kernel
theorem dX9_here_25 : decode cX9_here 25 = .ok (.ireturn, 1) := by decide +kernel
theorem dX9_skip_0 : decode cX9_skip 0 = .ok (.aload_n 0, 1) := by decide +kernel
theorem dX9_skip_1 : decode cX9_skip 1 = .ok (.invokevirtual 88, 3) := by decide +kernel
theorem dX9_skip_4 : decode cX9_skip 4 = .ok (.bipush 32, 2) := by decide +kernel
theorem dX9_skip_6 : decode cX9_skip 6 = .ok (.if_icmp .ne 16, 3) := by decide +kernel
theorem dX9_skip_9 : decode cX9_skip 9 = .ok (.aload_n 0, 1) := by decide +kernel
theorem dX9_skip_10 : decode cX9_skip 10 = .ok (.dup, 1) := by decide +kernel
theorem dX9_skip_11 : decode cX9_skip 11 = .ok (.getfield 85, 3) := by decide +kernel
theorem dX9_skip_14 : decode cX9_skip 14 = .ok (.iconst 1, 1) := by decide +kernel
theorem dX9_skip_15 : decode cX9_skip 15 = .ok (.iadd, 1) := by decide +kernel
theorem dX9_skip_16 : decode cX9_skip 16 = .ok (.putfield 85, 3) := by decide +kernel
theorem dX9_skip_19 : decode cX9_skip 19 = .ok (.goto (-19), 3) := by decide +kernel
theorem dX9_skip_22 : decode cX9_skip 22 = .ok (.return_, 1) := by decide +kernel
theorem dX9_number_0 : decode cX9_number 0 = .ok (.aload_n 0, 1) := by decide +kernel
theorem dX9_number_1 : decode cX9_number 1 = .ok (.invokevirtual 92, 3) := by decide +kernel
theorem dX9_number_4 : decode cX9_number 4 = .ok (.iconst 0, 1) := by decide +kernel
theorem dX9_number_5 : decode cX9_number 5 = .ok (.istore_n 3, 1) := by decide +kernel
theorem dX9_number_6 : decode cX9_number 6 = .ok (.iconst 0, 1) := by decide +kernel
theorem dX9_number_7 : decode cX9_number 7 = .ok (.istore 4, 2) := by decide +kernel
theorem dX9_number_9 : decode cX9_number 9 = .ok (.aload_n 0, 1) := by decide +kernel
theorem dX9_number_10 : decode cX9_number 10 = .ok (.getfield 85, 3) := by decide +kernel
theorem dX9_number_13 : decode cX9_number 13 = .ok (.iload_n 3, 1) := by decide +kernel
theorem dX9_number_14 : decode cX9_number 14 = .ok (.iadd, 1) := by decide +kernel
theorem dX9_number_15 : decode cX9_number 15 = .ok (.aload_n 0, 1) := by decide +kernel
theorem dX9_number_16 : decode cX9_number 16 = .ok (.getfield 82, 3) := by decide +kernel
theorem dX9_number_19 : decode cX9_number 19 = .ok (.if_icmp .ge 62, 3) := by decide +kernel
theorem dX9_number_22 : decode cX9_number 22 = .ok (.aload_n 0, 1) := by decide +kernel
theorem dX9_number_23 : decode cX9_number 23 = .ok (.getfield 28, 3) := by decide +kernel
theorem dX9_number_26 : decode cX9_number 26 = .ok (.aload_n 0, 1) := by decide +kernel
theorem dX9_number_27 : decode cX9_number 27 = .ok (.getfield 85, 3) := by decide +kernel
theorem dX9_number_30 : decode cX9_number 30 = .ok (.iload_n 3, 1) := by decide +kernel
theorem dX9_number_31 : decode cX9_number 31 = .ok (.iadd, 1) := by decide +kernel
theorem dX9_number_32 : decode cX9_number 32 = .ok (.iaload, 1) := by decide +kernel
theorem dX9_number_33 : decode cX9_number 33 = .ok (.bipush 48, 2) := by decide +kernel
theorem dX9_number_35 : decode cX9_number 35 = .ok (.bipush 57, 2) := by decide +kernel
theorem dX9_number_37 : decode cX9_number 37 = .ok (.invokestatic 66, 3) := by decide +kernel
theorem dX9_number_40 : decode cX9_number 40 = .ok (.ifCond .eq 41, 3) := by decide +kernel
theorem dX9_number_43 : decode cX9_number 43 = .ok (.iload_n 3, 1) := by decide +kernel
theorem dX9_number_44 : decode cX9_number 44 = .ok (.iconst 2, 1) := by decide +kernel
theorem dX9_number_45 : decode cX9_number 45 = .ok (.if_icmp .ge 26, 3) := by decide +kernel
theorem dX9_number_48 : decode cX9_number 48 = .ok (.bipush 10, 2) := by decide +kernel
theorem dX9_number_50 : decode cX9_number 50 = .ok (.iload 4, 2) := by decide +kernel
theorem dX9_number_52 : decode cX9_number 52 = .ok (.imul, 1) := by decide +kernel
theorem dX9_number_53 : decode cX9_number 53 = .ok (.aload_n 0, 1) := by decide +kernel
theorem dX9_number_54 : decode cX9_number 54 = .ok (.getfield 28, 3) := by decide +kernel
theorem dX9_number_57 : decode cX9_number 57 = .ok (.aload_n 0, 1) := by decide +kernel
theorem dX9_number_58 : decode cX9_number 58 = .ok (.getfield 85, 3) := by decide +kernel
theorem dX9_number_61 : decode cX9_number 61 = .ok (.iload_n 3, 1) := by decide +kernel
theorem dX9_number_62 : decode cX9_number 62 = .ok (.iadd, 1) := by decide +kernel
theorem dX9_number_63 : decode cX9_number 63 = .ok (.iaload, 1) := by decide +kernel
theorem dX9_number_64 : decode cX9_number 64 = .ok (.iadd, 1) := by decide +kernel
theorem dX9_number_65 : decode cX9_number 65 = .ok (.bipush 48, 2) := by decide +kernel
theorem dX9_number_67 : decode cX9_number 67 = .ok (.isub, 1) := by decide +kernel
theorem dX9_number_68 : decode cX9_number 68 = .ok (.goto 5, 3) := by decide +kernel
theorem dX9_number_71 : decode cX9_number 71 = .ok (.iload 4, 2) := by decide +kernel
theorem dX9_number_73 : decode cX9_number 73 = .ok (.istore 4, 2) := by decide +kernel
theorem dX9_number_75 : decode cX9_number 75 = .ok (.iinc 3 1, 3) := by decide +kernel
theorem dX9_number_78 : decode cX9_number 78 = .ok (.goto (-69), 3) := by decide +kernel
theorem dX9_number_81 : decode cX9_number 81 = .ok (.iload_n 3, 1) := by decide +kernel
theorem dX9_number_82 : decode cX9_number 82 = .ok (.iconst 1, 1) := by decide +kernel
theorem dX9_number_83 : decode cX9_number 83 = .ok (.iconst 2, 1) := by decide +kernel
theorem dX9_number_84 : decode cX9_number 84 = .ok (.invokestatic 66, 3) := by decide +kernel
theorem dX9_number_87 : decode cX9_number 87 = .ok (.ifCond .eq 27, 3) := by decide +kernel
theorem dX9_number_90 : decode cX9_number 90 = .ok (.iload_n 3, 1) := by decide +kernel
theorem dX9_number_91 : decode cX9_number 91 = .ok (.iconst 1, 1) := by decide +kernel
theorem dX9_number_92 : decode cX9_number 92 = .ok (.if_icmp .le 12, 3) := by decide +kernel
theorem dX9_number_95 : decode cX9_number 95 = .ok (.aload_n 0, 1) := by decide +kernel
theorem dX9_number_96 : decode cX9_number 96 = .ok (.invokevirtual 88, 3) := by decide +kernel
theorem dX9_number_99 : decode cX9_number 99 = .ok (.bipush 48, 2) := by decide +kernel
theorem dX9_number_101 : decode cX9_number 101 = .ok (.if_icmp .eq 13, 3) := by decide +kernel
theorem dX9_number_104 : decode cX9_number 104 = .ok (.iload 4, 2) := by decide +kernel
theorem dX9_number_106 : decode cX9_number 106 = .ok (.iload_n 1, 1) := by decide +kernel
theorem dX9_number_107 : decode cX9_number 107 = .ok (.iload_n 2, 1) := by decide +kernel
theorem dX9_number_108 : decode cX9_number 108 = .ok (.invokestatic 66, 3) := by decide +kernel
theorem dX9_number_111 : decode cX9_number 111 = .ok (.ifCond .ne 5, 3) := by decide +kernel
theorem dX9_number_114 : decode cX9_number 114 = .ok (.iconst 0, 1) := by decide +kernel
theorem dX9_number_115 : decode cX9_number 115 = .ok (.ireturn, 1) := by decide +kernel
theorem dX9_number_116 : decode cX9_number 116 = .ok (.aload_n 0, 1) := by decide +kernel
theorem dX9_number_117 : decode cX9_number 117 = .ok (.iload 4, 2) := by decide +kernel
theorem dX9_number_119 : decode cX9_number 119 = .ok (.putfield 95, 3) := by decide +kernel
theorem dX9_number_122 : decode cX9_number 122 = .ok (.aload_n 0, 1) := by decide +kernel
theorem dX9_number_123 : decode cX9_number 123 = .ok (.dup, 1) := by decide +kernel
theorem dX9_number_124 : decode cX9_number 124 = .ok (.getfield 85, 3) := by decide +kernel
theorem dX9_number_127 : decode cX9_number 127 = .ok (.iload_n 3, 1) := by decide +kernel
theorem dX9_number_128 : decode cX9_number 128 = .ok (.iadd, 1) := by decide +kernel
theorem dX9_number_129 : decode cX9_number 129 = .ok (.putfield 85, 3) := by decide +kernel
theorem dX9_number_132 : decode cX9_number 132 = .ok (.iconst 1, 1) := by decide +kernel
theorem dX9_number_133 : decode cX9_number 133 = .ok (.ireturn, 1) := by decide +kernel
theorem dX9_ends_0 : decode cX9_ends 0 = .ok (.aload_n 0, 1) := by decide +kernel
theorem dX9_ends_1 : decode cX9_ends 1 = .ok (.invokevirtual 92, 3) := by decide +kernel
theorem dX9_ends_4 : decode cX9_ends 4 = .ok (.aload_n 0, 1) := by decide +kernel
theorem dX9_ends_5 : decode cX9_ends 5 = .ok (.invokevirtual 88, 3) := by decide +kernel
theorem dX9_ends_8 : decode cX9_ends 8 = .ok (.bipush 59, 2) := by decide +kernel
theorem dX9_ends_10 : decode cX9_ends 10 = .ok (.if_icmp .eq 5, 3) := by decide +kernel
theorem dX9_ends_13 : decode cX9_ends 13 = .ok (.iconst 0, 1) := by decide +kernel
theorem dX9_ends_14 : decode cX9_ends 14 = .ok (.ireturn, 1) := by decide +kernel
theorem dX9_ends_15 : decode cX9_ends 15 = .ok (.aload_n 0, 1) := by decide +kernel
theorem dX9_ends_16 : decode cX9_ends 16 = .ok (.dup, 1) := by decide +kernel
theorem dX9_ends_17 : decode cX9_ends 17 = .ok (.getfield 85, 3) := by decide +kernel
theorem dX9_ends_20 : decode cX9_ends 20 = .ok (.iconst 1, 1) := by decide +kernel
theorem dX9_ends_21 : decode cX9_ends 21 = .ok (.iadd, 1) := by decide +kernel
theorem dX9_ends_22 : decode cX9_ends 22 = .ok (.putfield 85, 3) := by decide +kernel
theorem dX9_ends_25 : decode cX9_ends 25 = .ok (.iconst 1, 1) := by decide +kernel
theorem dX9_ends_26 : decode cX9_ends 26 = .ok (.ireturn, 1) := by decide +kernel
theorem dX9_readsPlain_0 : decode cX9_readsPlain 0 = .ok (.aload_n 0, 1) := by decide +kernel
theorem dX9_readsPlain_1 : decode cX9_readsPlain 1 = .ok (.iconst 0, 1) := by decide +kernel
theorem dX9_readsPlain_2 : decode cX9_readsPlain 2 = .ok (.bipush 9, 2) := by decide +kernel
theorem dX9_readsPlain_4 : decode cX9_readsPlain 4 = .ok (.invokevirtual 98, 3) := by decide +kernel
theorem dX9_readsPlain_7 : decode cX9_readsPlain 7 = .ok (.ifCond .ne 5, 3) := by decide +kernel
theorem dX9_readsPlain_10 : decode cX9_readsPlain 10 = .ok (.iconst 0, 1) := by decide +kernel
theorem dX9_readsPlain_11 : decode cX9_readsPlain 11 = .ok (.ireturn, 1) := by decide +kernel
theorem dX9_readsPlain_12 : decode cX9_readsPlain 12 = .ok (.aload_n 0, 1) := by decide +kernel
theorem dX9_readsPlain_13 : decode cX9_readsPlain 13 = .ok (.iconst 0, 1) := by decide +kernel
theorem dX9_readsPlain_14 : decode cX9_readsPlain 14 = .ok (.aload_n 0, 1) := by decide +kernel
theorem dX9_readsPlain_15 : decode cX9_readsPlain 15 = .ok (.getfield 95, 3) := by decide +kernel
theorem dX9_readsPlain_18 : decode cX9_readsPlain 18 = .ok (.bipush (-9), 2) := by decide +kernel
theorem dX9_readsPlain_20 : decode cX9_readsPlain 20 = .ok (.bipush (-9), 2) := by decide +kernel
theorem dX9_readsPlain_22 : decode cX9_readsPlain 22 = .ok (.invokevirtual 102, 3) := by decide +kernel
theorem dX9_readsPlain_25 : decode cX9_readsPlain 25 = .ok (.aload_n 0, 1) := by decide +kernel
theorem dX9_readsPlain_26 : decode cX9_readsPlain 26 = .ok (.invokevirtual 106, 3) := by decide +kernel
theorem dX9_readsPlain_29 : decode cX9_readsPlain 29 = .ok (.ireturn, 1) := by decide +kernel
theorem dX9_mayBegin_0 : decode cX9_mayBegin 0 = .ok (.aload_n 0, 1) := by decide +kernel
theorem dX9_mayBegin_1 : decode cX9_mayBegin 1 = .ok (.getfield 13, 3) := by decide +kernel
theorem dX9_mayBegin_4 : decode cX9_mayBegin 4 = .ok (.iload_n 1, 1) := by decide +kernel
theorem dX9_mayBegin_5 : decode cX9_mayBegin 5 = .ok (.iaload, 1) := by decide +kernel
theorem dX9_mayBegin_6 : decode cX9_mayBegin 6 = .ok (.ifCond .ne 36, 3) := by decide +kernel
theorem dX9_mayBegin_9 : decode cX9_mayBegin 9 = .ok (.aload_n 0, 1) := by decide +kernel
theorem dX9_mayBegin_10 : decode cX9_mayBegin 10 = .ok (.getfield 7, 3) := by decide +kernel
theorem dX9_mayBegin_13 : decode cX9_mayBegin 13 = .ok (.iload_n 1, 1) := by decide +kernel
theorem dX9_mayBegin_14 : decode cX9_mayBegin 14 = .ok (.iaload, 1) := by decide +kernel
theorem dX9_mayBegin_15 : decode cX9_mayBegin 15 = .ok (.ifCond .eq 13, 3) := by decide +kernel
theorem dX9_mayBegin_18 : decode cX9_mayBegin 18 = .ok (.aload_n 0, 1) := by decide +kernel
theorem dX9_mayBegin_19 : decode cX9_mayBegin 19 = .ok (.getfield 7, 3) := by decide +kernel
theorem dX9_mayBegin_22 : decode cX9_mayBegin 22 = .ok (.iload_n 1, 1) := by decide +kernel
theorem dX9_mayBegin_23 : decode cX9_mayBegin 23 = .ok (.iaload, 1) := by decide +kernel
theorem dX9_mayBegin_24 : decode cX9_mayBegin 24 = .ok (.iconst 1, 1) := by decide +kernel
theorem dX9_mayBegin_25 : decode cX9_mayBegin 25 = .ok (.if_icmp .ne 17, 3) := by decide +kernel
theorem dX9_mayBegin_28 : decode cX9_mayBegin 28 = .ok (.aload_n 0, 1) := by decide +kernel
theorem dX9_mayBegin_29 : decode cX9_mayBegin 29 = .ok (.getfield 22, 3) := by decide +kernel
theorem dX9_mayBegin_32 : decode cX9_mayBegin 32 = .ok (.iload_n 1, 1) := by decide +kernel
theorem dX9_mayBegin_33 : decode cX9_mayBegin 33 = .ok (.iaload, 1) := by decide +kernel
theorem dX9_mayBegin_34 : decode cX9_mayBegin 34 = .ok (.iconst 4, 1) := by decide +kernel
theorem dX9_mayBegin_35 : decode cX9_mayBegin 35 = .ok (.if_icmp .ge 7, 3) := by decide +kernel
theorem dX9_mayBegin_38 : decode cX9_mayBegin 38 = .ok (.iconst 1, 1) := by decide +kernel
theorem dX9_mayBegin_39 : decode cX9_mayBegin 39 = .ok (.goto 4, 3) := by decide +kernel
theorem dX9_mayBegin_42 : decode cX9_mayBegin 42 = .ok (.iconst 0, 1) := by decide +kernel
theorem dX9_mayBegin_43 : decode cX9_mayBegin 43 = .ok (.ireturn, 1) := by decide +kernel
theorem dX9_mayFollow_0 : decode cX9_mayFollow 0 = .ok (.aload_n 0, 1) := by decide +kernel
theorem dX9_mayFollow_1 : decode cX9_mayFollow 1 = .ok (.getfield 7, 3) := by decide +kernel
theorem dX9_mayFollow_4 : decode cX9_mayFollow 4 = .ok (.iload_n 2, 1) := by decide +kernel
theorem dX9_mayFollow_5 : decode cX9_mayFollow 5 = .ok (.iaload, 1) := by decide +kernel
theorem dX9_mayFollow_6 : decode cX9_mayFollow 6 = .ok (.ifCond .eq 5, 3) := by decide +kernel
theorem dX9_mayFollow_9 : decode cX9_mayFollow 9 = .ok (.iconst 0, 1) := by decide +kernel
theorem dX9_mayFollow_10 : decode cX9_mayFollow 10 = .ok (.ireturn, 1) := by decide +kernel
theorem dX9_mayFollow_11 : decode cX9_mayFollow 11 = .ok (.aload_n 0, 1) := by decide +kernel
theorem dX9_mayFollow_12 : decode cX9_mayFollow 12 = .ok (.getfield 25, 3) := by decide +kernel
theorem dX9_mayFollow_15 : decode cX9_mayFollow 15 = .ok (.iconst 4, 1) := by decide +kernel
theorem dX9_mayFollow_16 : decode cX9_mayFollow 16 = .ok (.iload_n 1, 1) := by decide +kernel
theorem dX9_mayFollow_17 : decode cX9_mayFollow 17 = .ok (.imul, 1) := by decide +kernel
theorem dX9_mayFollow_18 : decode cX9_mayFollow 18 = .ok (.aload_n 0, 1) := by decide +kernel
theorem dX9_mayFollow_19 : decode cX9_mayFollow 19 = .ok (.getfield 22, 3) := by decide +kernel
theorem dX9_mayFollow_22 : decode cX9_mayFollow 22 = .ok (.iload_n 1, 1) := by decide +kernel
theorem dX9_mayFollow_23 : decode cX9_mayFollow 23 = .ok (.iaload, 1) := by decide +kernel
theorem dX9_mayFollow_24 : decode cX9_mayFollow 24 = .ok (.iadd, 1) := by decide +kernel
theorem dX9_mayFollow_25 : decode cX9_mayFollow 25 = .ok (.iconst 1, 1) := by decide +kernel
theorem dX9_mayFollow_26 : decode cX9_mayFollow 26 = .ok (.isub, 1) := by decide +kernel
theorem dX9_mayFollow_27 : decode cX9_mayFollow 27 = .ok (.iaload, 1) := by decide +kernel
theorem dX9_mayFollow_28 : decode cX9_mayFollow 28 = .ok (.istore 4, 2) := by decide +kernel
theorem dX9_mayFollow_30 : decode cX9_mayFollow 30 = .ok (.iload_n 3, 1) := by decide +kernel
theorem dX9_mayFollow_31 : decode cX9_mayFollow 31 = .ok (.iconst 2, 1) := by decide +kernel
theorem dX9_mayFollow_32 : decode cX9_mayFollow 32 = .ok (.if_icmp .eq 39, 3) := by decide +kernel
theorem dX9_mayFollow_35 : decode cX9_mayFollow 35 = .ok (.aload_n 0, 1) := by decide +kernel
theorem dX9_mayFollow_36 : decode cX9_mayFollow 36 = .ok (.getfield 13, 3) := by decide +kernel
theorem dX9_mayFollow_39 : decode cX9_mayFollow 39 = .ok (.iload_n 2, 1) := by decide +kernel
theorem dX9_mayFollow_40 : decode cX9_mayFollow 40 = .ok (.iaload, 1) := by decide +kernel
theorem dX9_mayFollow_41 : decode cX9_mayFollow 41 = .ok (.ifCond .eq 19, 3) := by decide +kernel
theorem dX9_mayFollow_44 : decode cX9_mayFollow 44 = .ok (.aload_n 0, 1) := by decide +kernel
theorem dX9_mayFollow_45 : decode cX9_mayFollow 45 = .ok (.getfield 13, 3) := by decide +kernel
theorem dX9_mayFollow_48 : decode cX9_mayFollow 48 = .ok (.iload_n 2, 1) := by decide +kernel
theorem dX9_mayFollow_49 : decode cX9_mayFollow 49 = .ok (.iaload, 1) := by decide +kernel
theorem dX9_mayFollow_50 : decode cX9_mayFollow 50 = .ok (.aload_n 0, 1) := by decide +kernel
theorem dX9_mayFollow_51 : decode cX9_mayFollow 51 = .ok (.getfield 13, 3) := by decide +kernel
theorem dX9_mayFollow_54 : decode cX9_mayFollow 54 = .ok (.iload 4, 2) := by decide +kernel
theorem dX9_mayFollow_56 : decode cX9_mayFollow 56 = .ok (.iaload, 1) := by decide +kernel
theorem dX9_mayFollow_57 : decode cX9_mayFollow 57 = .ok (.if_icmp .lt 18, 3) := by decide +kernel
theorem dX9_mayFollow_60 : decode cX9_mayFollow 60 = .ok (.aload_n 0, 1) := by decide +kernel
theorem dX9_mayFollow_61 : decode cX9_mayFollow 61 = .ok (.iload_n 1, 1) := by decide +kernel
theorem dX9_mayFollow_62 : decode cX9_mayFollow 62 = .ok (.iload_n 2, 1) := by decide +kernel
theorem dX9_mayFollow_63 : decode cX9_mayFollow 63 = .ok (.invokevirtual 78, 3) := by decide +kernel
theorem dX9_mayFollow_66 : decode cX9_mayFollow 66 = .ok (.bipush (-9), 2) := by decide +kernel
theorem dX9_mayFollow_68 : decode cX9_mayFollow 68 = .ok (.if_icmp .ne 7, 3) := by decide +kernel
theorem dX9_mayFollow_71 : decode cX9_mayFollow 71 = .ok (.iconst 1, 1) := by decide +kernel
theorem dX9_mayFollow_72 : decode cX9_mayFollow 72 = .ok (.goto 4, 3) := by decide +kernel
theorem dX9_mayFollow_75 : decode cX9_mayFollow 75 = .ok (.iconst 0, 1) := by decide +kernel
theorem dX9_mayFollow_76 : decode cX9_mayFollow 76 = .ok (.ireturn, 1) := by decide +kernel
theorem dX9_readsTwo_0 : decode cX9_readsTwo 0 = .ok (.aload_n 0, 1) := by decide +kernel
theorem dX9_readsTwo_1 : decode cX9_readsTwo 1 = .ok (.invokevirtual 92, 3) := by decide +kernel
theorem dX9_readsTwo_4 : decode cX9_readsTwo 4 = .ok (.aload_n 0, 1) := by decide +kernel
theorem dX9_readsTwo_5 : decode cX9_readsTwo 5 = .ok (.getfield 85, 3) := by decide +kernel
theorem dX9_readsTwo_8 : decode cX9_readsTwo 8 = .ok (.istore_n 2, 1) := by decide +kernel
theorem dX9_readsTwo_9 : decode cX9_readsTwo 9 = .ok (.aload_n 0, 1) := by decide +kernel
theorem dX9_readsTwo_10 : decode cX9_readsTwo 10 = .ok (.iconst 0, 1) := by decide +kernel
theorem dX9_readsTwo_11 : decode cX9_readsTwo 11 = .ok (.aload_n 0, 1) := by decide +kernel
theorem dX9_readsTwo_12 : decode cX9_readsTwo 12 = .ok (.getfield 62, 3) := by decide +kernel
theorem dX9_readsTwo_15 : decode cX9_readsTwo 15 = .ok (.iconst 1, 1) := by decide +kernel
theorem dX9_readsTwo_16 : decode cX9_readsTwo 16 = .ok (.isub, 1) := by decide +kernel
theorem dX9_readsTwo_17 : decode cX9_readsTwo 17 = .ok (.invokevirtual 98, 3) := by decide +kernel
theorem dX9_readsTwo_20 : decode cX9_readsTwo 20 = .ok (.ifCond .ne 5, 3) := by decide +kernel
theorem dX9_readsTwo_23 : decode cX9_readsTwo 23 = .ok (.iconst 0, 1) := by decide +kernel
theorem dX9_readsTwo_24 : decode cX9_readsTwo 24 = .ok (.ireturn, 1) := by decide +kernel
theorem dX9_readsTwo_25 : decode cX9_readsTwo 25 = .ok (.aload_n 0, 1) := by decide +kernel
theorem dX9_readsTwo_26 : decode cX9_readsTwo 26 = .ok (.getfield 95, 3) := by decide +kernel
theorem dX9_readsTwo_29 : decode cX9_readsTwo 29 = .ok (.istore_n 3, 1) := by decide +kernel
theorem dX9_readsTwo_30 : decode cX9_readsTwo 30 = .ok (.aload_n 0, 1) := by decide +kernel
theorem dX9_readsTwo_31 : decode cX9_readsTwo 31 = .ok (.iload_n 3, 1) := by decide +kernel
theorem dX9_readsTwo_32 : decode cX9_readsTwo 32 = .ok (.invokevirtual 110, 3) := by decide +kernel
theorem dX9_readsTwo_35 : decode cX9_readsTwo 35 = .ok (.ifCond .ne 10, 3) := by decide +kernel
theorem dX9_readsTwo_38 : decode cX9_readsTwo 38 = .ok (.aload_n 0, 1) := by decide +kernel
theorem dX9_readsTwo_39 : decode cX9_readsTwo 39 = .ok (.iload_n 2, 1) := by decide +kernel
theorem dX9_readsTwo_40 : decode cX9_readsTwo 40 = .ok (.putfield 85, 3) := by decide +kernel
theorem dX9_readsTwo_43 : decode cX9_readsTwo 43 = .ok (.iconst 0, 1) := by decide +kernel
theorem dX9_readsTwo_44 : decode cX9_readsTwo 44 = .ok (.ireturn, 1) := by decide +kernel
theorem dX9_readsTwo_45 : decode cX9_readsTwo 45 = .ok (.aload_n 0, 1) := by decide +kernel
theorem dX9_readsTwo_46 : decode cX9_readsTwo 46 = .ok (.invokevirtual 92, 3) := by decide +kernel
theorem dX9_readsTwo_49 : decode cX9_readsTwo 49 = .ok (.aload_n 0, 1) := by decide +kernel
theorem dX9_readsTwo_50 : decode cX9_readsTwo 50 = .ok (.getfield 85, 3) := by decide +kernel
theorem dX9_readsTwo_53 : decode cX9_readsTwo 53 = .ok (.istore_n 2, 1) := by decide +kernel
theorem dX9_readsTwo_54 : decode cX9_readsTwo 54 = .ok (.aload_n 0, 1) := by decide +kernel
theorem dX9_readsTwo_55 : decode cX9_readsTwo 55 = .ok (.iconst 0, 1) := by decide +kernel
theorem dX9_readsTwo_56 : decode cX9_readsTwo 56 = .ok (.aload_n 0, 1) := by decide +kernel
theorem dX9_readsTwo_57 : decode cX9_readsTwo 57 = .ok (.getfield 62, 3) := by decide +kernel
theorem dX9_readsTwo_60 : decode cX9_readsTwo 60 = .ok (.iconst 1, 1) := by decide +kernel
theorem dX9_readsTwo_61 : decode cX9_readsTwo 61 = .ok (.isub, 1) := by decide +kernel
theorem dX9_readsTwo_62 : decode cX9_readsTwo 62 = .ok (.invokevirtual 98, 3) := by decide +kernel
theorem dX9_readsTwo_65 : decode cX9_readsTwo 65 = .ok (.ifCond .ne 5, 3) := by decide +kernel
theorem dX9_readsTwo_68 : decode cX9_readsTwo 68 = .ok (.iconst 0, 1) := by decide +kernel
theorem dX9_readsTwo_69 : decode cX9_readsTwo 69 = .ok (.ireturn, 1) := by decide +kernel
theorem dX9_readsTwo_70 : decode cX9_readsTwo 70 = .ok (.aload_n 0, 1) := by decide +kernel
theorem dX9_readsTwo_71 : decode cX9_readsTwo 71 = .ok (.getfield 95, 3) := by decide +kernel
theorem dX9_readsTwo_74 : decode cX9_readsTwo 74 = .ok (.istore 4, 2) := by decide +kernel
theorem dX9_readsTwo_76 : decode cX9_readsTwo 76 = .ok (.aload_n 0, 1) := by decide +kernel
theorem dX9_readsTwo_77 : decode cX9_readsTwo 77 = .ok (.iload_n 3, 1) := by decide +kernel
theorem dX9_readsTwo_78 : decode cX9_readsTwo 78 = .ok (.iload 4, 2) := by decide +kernel
theorem dX9_readsTwo_80 : decode cX9_readsTwo 80 = .ok (.iload_n 1, 1) := by decide +kernel
theorem dX9_readsTwo_81 : decode cX9_readsTwo 81 = .ok (.invokevirtual 113, 3) := by decide +kernel
theorem dX9_readsTwo_84 : decode cX9_readsTwo 84 = .ok (.ifCond .ne 10, 3) := by decide +kernel
theorem dX9_readsTwo_87 : decode cX9_readsTwo 87 = .ok (.aload_n 0, 1) := by decide +kernel
theorem dX9_readsTwo_88 : decode cX9_readsTwo 88 = .ok (.iload_n 2, 1) := by decide +kernel
theorem dX9_readsTwo_89 : decode cX9_readsTwo 89 = .ok (.putfield 85, 3) := by decide +kernel
theorem dX9_readsTwo_92 : decode cX9_readsTwo 92 = .ok (.iconst 0, 1) := by decide +kernel
theorem dX9_readsTwo_93 : decode cX9_readsTwo 93 = .ok (.ireturn, 1) := by decide +kernel
theorem dX9_readsTwo_94 : decode cX9_readsTwo 94 = .ok (.aload_n 0, 1) := by decide +kernel
theorem dX9_readsTwo_95 : decode cX9_readsTwo 95 = .ok (.iload_n 1, 1) := by decide +kernel
theorem dX9_readsTwo_96 : decode cX9_readsTwo 96 = .ok (.iconst 0, 1) := by decide +kernel
theorem dX9_readsTwo_97 : decode cX9_readsTwo 97 = .ok (.iload_n 3, 1) := by decide +kernel
theorem dX9_readsTwo_98 : decode cX9_readsTwo 98 = .ok (.iload 4, 2) := by decide +kernel
theorem dX9_readsTwo_100 : decode cX9_readsTwo 100 = .ok (.invokevirtual 102, 3) := by decide +kernel
theorem dX9_readsTwo_103 : decode cX9_readsTwo 103 = .ok (.aload_n 0, 1) := by decide +kernel
theorem dX9_readsTwo_104 : decode cX9_readsTwo 104 = .ok (.invokevirtual 106, 3) := by decide +kernel
theorem dX9_readsTwo_107 : decode cX9_readsTwo 107 = .ok (.ireturn, 1) := by decide +kernel
theorem dX9_readsSingle_0 : decode cX9_readsSingle 0 = .ok (.aload_n 0, 1) := by decide +kernel
theorem dX9_readsSingle_1 : decode cX9_readsSingle 1 = .ok (.iconst 0, 1) := by decide +kernel
theorem dX9_readsSingle_2 : decode cX9_readsSingle 2 = .ok (.aload_n 0, 1) := by decide +kernel
theorem dX9_readsSingle_3 : decode cX9_readsSingle 3 = .ok (.getfield 62, 3) := by decide +kernel
theorem dX9_readsSingle_6 : decode cX9_readsSingle 6 = .ok (.iconst 1, 1) := by decide +kernel
theorem dX9_readsSingle_7 : decode cX9_readsSingle 7 = .ok (.isub, 1) := by decide +kernel
theorem dX9_readsSingle_8 : decode cX9_readsSingle 8 = .ok (.invokevirtual 98, 3) := by decide +kernel
theorem dX9_readsSingle_11 : decode cX9_readsSingle 11 = .ok (.ifCond .ne 5, 3) := by decide +kernel
theorem dX9_readsSingle_14 : decode cX9_readsSingle 14 = .ok (.iconst 0, 1) := by decide +kernel
theorem dX9_readsSingle_15 : decode cX9_readsSingle 15 = .ok (.ireturn, 1) := by decide +kernel
theorem dX9_readsSingle_16 : decode cX9_readsSingle 16 = .ok (.aload_n 0, 1) := by decide +kernel
theorem dX9_readsSingle_17 : decode cX9_readsSingle 17 = .ok (.iconst 3, 1) := by decide +kernel
theorem dX9_readsSingle_18 : decode cX9_readsSingle 18 = .ok (.aload_n 0, 1) := by decide +kernel
theorem dX9_readsSingle_19 : decode cX9_readsSingle 19 = .ok (.getfield 13, 3) := by decide +kernel
theorem dX9_readsSingle_22 : decode cX9_readsSingle 22 = .ok (.aload_n 0, 1) := by decide +kernel
theorem dX9_readsSingle_23 : decode cX9_readsSingle 23 = .ok (.getfield 95, 3) := by decide +kernel
theorem dX9_readsSingle_26 : decode cX9_readsSingle 26 = .ok (.iaload, 1) := by decide +kernel
theorem dX9_readsSingle_27 : decode cX9_readsSingle 27 = .ok (.aload_n 0, 1) := by decide +kernel
theorem dX9_readsSingle_28 : decode cX9_readsSingle 28 = .ok (.getfield 95, 3) := by decide +kernel
theorem dX9_readsSingle_31 : decode cX9_readsSingle 31 = .ok (.bipush (-9), 2) := by decide +kernel
theorem dX9_readsSingle_33 : decode cX9_readsSingle 33 = .ok (.invokevirtual 102, 3) := by decide +kernel
theorem dX9_readsSingle_36 : decode cX9_readsSingle 36 = .ok (.aload_n 0, 1) := by decide +kernel
theorem dX9_readsSingle_37 : decode cX9_readsSingle 37 = .ok (.invokevirtual 106, 3) := by decide +kernel
theorem dX9_readsSingle_40 : decode cX9_readsSingle 40 = .ok (.ireturn, 1) := by decide +kernel
theorem dX9_readsCode_0 : decode cX9_readsCode 0 = .ok (.aload_n 0, 1) := by decide +kernel
theorem dX9_readsCode_1 : decode cX9_readsCode 1 = .ok (.invokevirtual 88, 3) := by decide +kernel
theorem dX9_readsCode_4 : decode cX9_readsCode 4 = .ok (.istore_n 1, 1) := by decide +kernel
theorem dX9_readsCode_5 : decode cX9_readsCode 5 = .ok (.aload_n 0, 1) := by decide +kernel
theorem dX9_readsCode_6 : decode cX9_readsCode 6 = .ok (.getfield 85, 3) := by decide +kernel
theorem dX9_readsCode_9 : decode cX9_readsCode 9 = .ok (.iconst 1, 1) := by decide +kernel
theorem dX9_readsCode_10 : decode cX9_readsCode 10 = .ok (.iadd, 1) := by decide +kernel
theorem dX9_readsCode_11 : decode cX9_readsCode 11 = .ok (.aload_n 0, 1) := by decide +kernel
theorem dX9_readsCode_12 : decode cX9_readsCode 12 = .ok (.getfield 82, 3) := by decide +kernel
theorem dX9_readsCode_15 : decode cX9_readsCode 15 = .ok (.if_icmp .ge 24, 3) := by decide +kernel
theorem dX9_readsCode_18 : decode cX9_readsCode 18 = .ok (.aload_n 0, 1) := by decide +kernel
theorem dX9_readsCode_19 : decode cX9_readsCode 19 = .ok (.getfield 28, 3) := by decide +kernel
theorem dX9_readsCode_22 : decode cX9_readsCode 22 = .ok (.aload_n 0, 1) := by decide +kernel
theorem dX9_readsCode_23 : decode cX9_readsCode 23 = .ok (.getfield 85, 3) := by decide +kernel
theorem dX9_readsCode_26 : decode cX9_readsCode 26 = .ok (.iconst 1, 1) := by decide +kernel
theorem dX9_readsCode_27 : decode cX9_readsCode 27 = .ok (.iadd, 1) := by decide +kernel
theorem dX9_readsCode_28 : decode cX9_readsCode 28 = .ok (.iaload, 1) := by decide +kernel
theorem dX9_readsCode_29 : decode cX9_readsCode 29 = .ok (.bipush 97, 2) := by decide +kernel
theorem dX9_readsCode_31 : decode cX9_readsCode 31 = .ok (.bipush 122, 2) := by decide +kernel
theorem dX9_readsCode_33 : decode cX9_readsCode 33 = .ok (.invokestatic 66, 3) := by decide +kernel
theorem dX9_readsCode_36 : decode cX9_readsCode 36 = .ok (.ifCond .ne 7, 3) := by decide +kernel
theorem dX9_readsCode_39 : decode cX9_readsCode 39 = .ok (.iconst 1, 1) := by decide +kernel
theorem dX9_readsCode_40 : decode cX9_readsCode 40 = .ok (.goto 4, 3) := by decide +kernel
theorem dX9_readsCode_43 : decode cX9_readsCode 43 = .ok (.iconst 0, 1) := by decide +kernel
theorem dX9_readsCode_44 : decode cX9_readsCode 44 = .ok (.istore_n 2, 1) := by decide +kernel
theorem dX9_readsCode_45 : decode cX9_readsCode 45 = .ok (.iload_n 1, 1) := by decide +kernel
theorem dX9_readsCode_46 : decode cX9_readsCode 46 = .ok (.bipush 99, 2) := by decide +kernel
theorem dX9_readsCode_48 : decode cX9_readsCode 48 = .ok (.if_icmp .eq 31, 3) := by decide +kernel
theorem dX9_readsCode_51 : decode cX9_readsCode 51 = .ok (.iload_n 1, 1) := by decide +kernel
theorem dX9_readsCode_52 : decode cX9_readsCode 52 = .ok (.bipush 120, 2) := by decide +kernel
theorem dX9_readsCode_54 : decode cX9_readsCode 54 = .ok (.if_icmp .eq 25, 3) := by decide +kernel
theorem dX9_readsCode_57 : decode cX9_readsCode 57 = .ok (.iload_n 1, 1) := by decide +kernel
theorem dX9_readsCode_58 : decode cX9_readsCode 58 = .ok (.bipush 115, 2) := by decide +kernel
theorem dX9_readsCode_60 : decode cX9_readsCode 60 = .ok (.if_icmp .eq 19, 3) := by decide +kernel
theorem dX9_readsCode_63 : decode cX9_readsCode 63 = .ok (.iload_n 1, 1) := by decide +kernel
theorem dX9_readsCode_64 : decode cX9_readsCode 64 = .ok (.bipush 112, 2) := by decide +kernel
theorem dX9_readsCode_66 : decode cX9_readsCode 66 = .ok (.if_icmp .ne 17, 3) := by decide +kernel
theorem dX9_readsCode_69 : decode cX9_readsCode 69 = .ok (.aload_n 0, 1) := by decide +kernel
theorem dX9_readsCode_70 : decode cX9_readsCode 70 = .ok (.iconst 1, 1) := by decide +kernel
theorem dX9_readsCode_71 : decode cX9_readsCode 71 = .ok (.invokevirtual 116, 3) := by decide +kernel
theorem dX9_readsCode_74 : decode cX9_readsCode 74 = .ok (.bipush 7, 2) := by decide +kernel
theorem dX9_readsCode_76 : decode cX9_readsCode 76 = .ok (.if_icmp .ge 7, 3) := by decide +kernel
theorem dX9_readsCode_79 : decode cX9_readsCode 79 = .ok (.iconst 1, 1) := by decide +kernel
theorem dX9_readsCode_80 : decode cX9_readsCode 80 = .ok (.goto 4, 3) := by decide +kernel
theorem dX9_readsCode_83 : decode cX9_readsCode 83 = .ok (.iconst 0, 1) := by decide +kernel
theorem dX9_readsCode_84 : decode cX9_readsCode 84 = .ok (.istore_n 3, 1) := by decide +kernel
theorem dX9_readsCode_85 : decode cX9_readsCode 85 = .ok (.iload_n 2, 1) := by decide +kernel
theorem dX9_readsCode_86 : decode cX9_readsCode 86 = .ok (.ifCond .eq 16, 3) := by decide +kernel
theorem dX9_readsCode_89 : decode cX9_readsCode 89 = .ok (.iload_n 3, 1) := by decide +kernel
theorem dX9_readsCode_90 : decode cX9_readsCode 90 = .ok (.ifCond .eq 12, 3) := by decide +kernel
theorem dX9_readsCode_93 : decode cX9_readsCode 93 = .ok (.aload_n 0, 1) := by decide +kernel
theorem dX9_readsCode_94 : decode cX9_readsCode 94 = .ok (.getfield 62, 3) := by decide +kernel
theorem dX9_readsCode_97 : decode cX9_readsCode 97 = .ok (.bipush 24, 2) := by decide +kernel
theorem dX9_readsCode_99 : decode cX9_readsCode 99 = .ok (.if_icmp .ne 5, 3) := by decide +kernel
theorem dX9_readsCode_102 : decode cX9_readsCode 102 = .ok (.iconst 0, 1) := by decide +kernel
theorem dX9_readsCode_103 : decode cX9_readsCode 103 = .ok (.ireturn, 1) := by decide +kernel
theorem dX9_readsCode_104 : decode cX9_readsCode 104 = .ok (.aload_n 0, 1) := by decide +kernel
theorem dX9_readsCode_105 : decode cX9_readsCode 105 = .ok (.dup, 1) := by decide +kernel
theorem dX9_readsCode_106 : decode cX9_readsCode 106 = .ok (.getfield 85, 3) := by decide +kernel
theorem dX9_readsCode_109 : decode cX9_readsCode 109 = .ok (.iconst 1, 1) := by decide +kernel
theorem dX9_readsCode_110 : decode cX9_readsCode 110 = .ok (.iadd, 1) := by decide +kernel
theorem dX9_readsCode_111 : decode cX9_readsCode 111 = .ok (.putfield 85, 3) := by decide +kernel
theorem dX9_readsCode_114 : decode cX9_readsCode 114 = .ok (.iload_n 1, 1) := by decide +kernel
theorem dX9_readsCode_115 : decode cX9_readsCode 115 = .ok (.bipush 99, 2) := by decide +kernel
theorem dX9_readsCode_117 : decode cX9_readsCode 117 = .ok (.if_icmp .ne 10, 3) := by decide +kernel
theorem dX9_readsCode_120 : decode cX9_readsCode 120 = .ok (.aload_n 0, 1) := by decide +kernel
theorem dX9_readsCode_121 : decode cX9_readsCode 121 = .ok (.invokevirtual 120, 3) := by decide +kernel
theorem dX9_readsCode_124 : decode cX9_readsCode 124 = .ok (.goto 31, 3) := by decide +kernel
theorem dX9_readsCode_127 : decode cX9_readsCode 127 = .ok (.iload_n 1, 1) := by decide +kernel
theorem dX9_readsCode_128 : decode cX9_readsCode 128 = .ok (.bipush 115, 2) := by decide +kernel
theorem dX9_readsCode_130 : decode cX9_readsCode 130 = .ok (.if_icmp .ne 10, 3) := by decide +kernel
theorem dX9_readsCode_133 : decode cX9_readsCode 133 = .ok (.aload_n 0, 1) := by decide +kernel
theorem dX9_readsCode_134 : decode cX9_readsCode 134 = .ok (.invokevirtual 123, 3) := by decide +kernel
theorem dX9_readsCode_137 : decode cX9_readsCode 137 = .ok (.goto 18, 3) := by decide +kernel
theorem dX9_readsCode_140 : decode cX9_readsCode 140 = .ok (.aload_n 0, 1) := by decide +kernel
theorem dX9_readsCode_141 : decode cX9_readsCode 141 = .ok (.iload_n 1, 1) := by decide +kernel
theorem dX9_readsCode_142 : decode cX9_readsCode 142 = .ok (.bipush 112, 2) := by decide +kernel
theorem dX9_readsCode_144 : decode cX9_readsCode 144 = .ok (.if_icmp .ne 7, 3) := by decide +kernel
theorem dX9_readsCode_147 : decode cX9_readsCode 147 = .ok (.iconst 1, 1) := by decide +kernel
theorem dX9_readsCode_148 : decode cX9_readsCode 148 = .ok (.goto 4, 3) := by decide +kernel
theorem dX9_readsCode_151 : decode cX9_readsCode 151 = .ok (.iconst 2, 1) := by decide +kernel
theorem dX9_readsCode_152 : decode cX9_readsCode 152 = .ok (.invokevirtual 126, 3) := by decide +kernel
theorem dX9_readsCode_155 : decode cX9_readsCode 155 = .ok (.ireturn, 1) := by decide +kernel
theorem dX9_readsAll_0 : decode cX9_readsAll 0 = .ok (.aload_n 0, 1) := by decide +kernel
theorem dX9_readsAll_1 : decode cX9_readsAll 1 = .ok (.iconst 0, 1) := by decide +kernel
theorem dX9_readsAll_2 : decode cX9_readsAll 2 = .ok (.putfield 85, 3) := by decide +kernel
theorem dX9_readsAll_5 : decode cX9_readsAll 5 = .ok (.aload_n 0, 1) := by decide +kernel
theorem dX9_readsAll_6 : decode cX9_readsAll 6 = .ok (.iconst 0, 1) := by decide +kernel
theorem dX9_readsAll_7 : decode cX9_readsAll 7 = .ok (.putfield 62, 3) := by decide +kernel
theorem dX9_readsAll_10 : decode cX9_readsAll 10 = .ok (.aload_n 0, 1) := by decide +kernel
theorem dX9_readsAll_11 : decode cX9_readsAll 11 = .ok (.invokevirtual 92, 3) := by decide +kernel
theorem dX9_readsAll_14 : decode cX9_readsAll 14 = .ok (.aload_n 0, 1) := by decide +kernel
theorem dX9_readsAll_15 : decode cX9_readsAll 15 = .ok (.getfield 85, 3) := by decide +kernel
theorem dX9_readsAll_18 : decode cX9_readsAll 18 = .ok (.aload_n 0, 1) := by decide +kernel
theorem dX9_readsAll_19 : decode cX9_readsAll 19 = .ok (.getfield 82, 3) := by decide +kernel
theorem dX9_readsAll_22 : decode cX9_readsAll 22 = .ok (.if_icmp .ge 19, 3) := by decide +kernel
theorem dX9_readsAll_25 : decode cX9_readsAll 25 = .ok (.aload_n 0, 1) := by decide +kernel
theorem dX9_readsAll_26 : decode cX9_readsAll 26 = .ok (.invokevirtual 129, 3) := by decide +kernel
theorem dX9_readsAll_29 : decode cX9_readsAll 29 = .ok (.ifCond .ne 5, 3) := by decide +kernel
theorem dX9_readsAll_32 : decode cX9_readsAll 32 = .ok (.iconst 0, 1) := by decide +kernel
theorem dX9_readsAll_33 : decode cX9_readsAll 33 = .ok (.ireturn, 1) := by decide +kernel
theorem dX9_readsAll_34 : decode cX9_readsAll 34 = .ok (.aload_n 0, 1) := by decide +kernel
theorem dX9_readsAll_35 : decode cX9_readsAll 35 = .ok (.invokevirtual 92, 3) := by decide +kernel
theorem dX9_readsAll_38 : decode cX9_readsAll 38 = .ok (.goto (-24), 3) := by decide +kernel
theorem dX9_readsAll_41 : decode cX9_readsAll 41 = .ok (.iconst 1, 1) := by decide +kernel
theorem dX9_readsAll_42 : decode cX9_readsAll 42 = .ok (.ireturn, 1) := by decide +kernel
theorem dX9_lays_0 : decode cX9_lays 0 = .ok (.aload_n 0, 1) := by decide +kernel
theorem dX9_lays_1 : decode cX9_lays 1 = .ok (.getfield 31, 3) := by decide +kernel
theorem dX9_lays_4 : decode cX9_lays 4 = .ok (.iconst 0, 1) := by decide +kernel
theorem dX9_lays_5 : decode cX9_lays 5 = .ok (.aload_n 0, 1) := by decide +kernel
theorem dX9_lays_6 : decode cX9_lays 6 = .ok (.getfield 62, 3) := by decide +kernel
theorem dX9_lays_9 : decode cX9_lays 9 = .ok (.iastore, 1) := by decide +kernel
theorem dX9_lays_10 : decode cX9_lays 10 = .ok (.iconst 0, 1) := by decide +kernel
theorem dX9_lays_11 : decode cX9_lays 11 = .ok (.istore_n 1, 1) := by decide +kernel
theorem dX9_lays_12 : decode cX9_lays 12 = .ok (.iload_n 1, 1) := by decide +kernel
theorem dX9_lays_13 : decode cX9_lays 13 = .ok (.bipush 24, 2) := by decide +kernel
theorem dX9_lays_15 : decode cX9_lays 15 = .ok (.if_icmp .ge 68, 3) := by decide +kernel
theorem dX9_lays_18 : decode cX9_lays 18 = .ok (.aload_n 0, 1) := by decide +kernel
theorem dX9_lays_19 : decode cX9_lays 19 = .ok (.getfield 31, 3) := by decide +kernel
theorem dX9_lays_22 : decode cX9_lays 22 = .ok (.iconst 1, 1) := by decide +kernel
theorem dX9_lays_23 : decode cX9_lays 23 = .ok (.iload_n 1, 1) := by decide +kernel
theorem dX9_lays_24 : decode cX9_lays 24 = .ok (.iadd, 1) := by decide +kernel
theorem dX9_lays_25 : decode cX9_lays 25 = .ok (.aload_n 0, 1) := by decide +kernel
theorem dX9_lays_26 : decode cX9_lays 26 = .ok (.getfield 7, 3) := by decide +kernel
theorem dX9_lays_29 : decode cX9_lays 29 = .ok (.iload_n 1, 1) := by decide +kernel
theorem dX9_lays_30 : decode cX9_lays 30 = .ok (.iaload, 1) := by decide +kernel
theorem dX9_lays_31 : decode cX9_lays 31 = .ok (.iastore, 1) := by decide +kernel
theorem dX9_lays_32 : decode cX9_lays 32 = .ok (.aload_n 0, 1) := by decide +kernel
theorem dX9_lays_33 : decode cX9_lays 33 = .ok (.getfield 31, 3) := by decide +kernel
theorem dX9_lays_36 : decode cX9_lays 36 = .ok (.bipush 25, 2) := by decide +kernel
theorem dX9_lays_38 : decode cX9_lays 38 = .ok (.iload_n 1, 1) := by decide +kernel
theorem dX9_lays_39 : decode cX9_lays 39 = .ok (.iadd, 1) := by decide +kernel
theorem dX9_lays_40 : decode cX9_lays 40 = .ok (.aload_n 0, 1) := by decide +kernel
theorem dX9_lays_41 : decode cX9_lays 41 = .ok (.getfield 13, 3) := by decide +kernel
theorem dX9_lays_44 : decode cX9_lays 44 = .ok (.iload_n 1, 1) := by decide +kernel
theorem dX9_lays_45 : decode cX9_lays 45 = .ok (.iaload, 1) := by decide +kernel
theorem dX9_lays_46 : decode cX9_lays 46 = .ok (.iastore, 1) := by decide +kernel
theorem dX9_lays_47 : decode cX9_lays 47 = .ok (.aload_n 0, 1) := by decide +kernel
theorem dX9_lays_48 : decode cX9_lays 48 = .ok (.getfield 31, 3) := by decide +kernel
theorem dX9_lays_51 : decode cX9_lays 51 = .ok (.bipush 49, 2) := by decide +kernel
theorem dX9_lays_53 : decode cX9_lays 53 = .ok (.iload_n 1, 1) := by decide +kernel
theorem dX9_lays_54 : decode cX9_lays 54 = .ok (.iadd, 1) := by decide +kernel
theorem dX9_lays_55 : decode cX9_lays 55 = .ok (.aload_n 0, 1) := by decide +kernel
theorem dX9_lays_56 : decode cX9_lays 56 = .ok (.getfield 16, 3) := by decide +kernel
theorem dX9_lays_59 : decode cX9_lays 59 = .ok (.iload_n 1, 1) := by decide +kernel
theorem dX9_lays_60 : decode cX9_lays 60 = .ok (.iaload, 1) := by decide +kernel
theorem dX9_lays_61 : decode cX9_lays 61 = .ok (.iastore, 1) := by decide +kernel
theorem dX9_lays_62 : decode cX9_lays 62 = .ok (.aload_n 0, 1) := by decide +kernel
theorem dX9_lays_63 : decode cX9_lays 63 = .ok (.getfield 31, 3) := by decide +kernel
theorem dX9_lays_66 : decode cX9_lays 66 = .ok (.bipush 73, 2) := by decide +kernel
theorem dX9_lays_68 : decode cX9_lays 68 = .ok (.iload_n 1, 1) := by decide +kernel
theorem dX9_lays_69 : decode cX9_lays 69 = .ok (.iadd, 1) := by decide +kernel
theorem dX9_lays_70 : decode cX9_lays 70 = .ok (.aload_n 0, 1) := by decide +kernel
theorem dX9_lays_71 : decode cX9_lays 71 = .ok (.getfield 19, 3) := by decide +kernel
theorem dX9_lays_74 : decode cX9_lays 74 = .ok (.iload_n 1, 1) := by decide +kernel
theorem dX9_lays_75 : decode cX9_lays 75 = .ok (.iaload, 1) := by decide +kernel
theorem dX9_lays_76 : decode cX9_lays 76 = .ok (.iastore, 1) := by decide +kernel
theorem dX9_lays_77 : decode cX9_lays 77 = .ok (.iinc 1 1, 3) := by decide +kernel
theorem dX9_lays_80 : decode cX9_lays 80 = .ok (.goto (-68), 3) := by decide +kernel
theorem dX9_lays_83 : decode cX9_lays 83 = .ok (.return_, 1) := by decide +kernel
theorem dX9_takes_0 : decode cX9_takes 0 = .ok (.aload_n 0, 1) := by decide +kernel
theorem dX9_takes_1 : decode cX9_takes 1 = .ok (.getfield 31, 3) := by decide +kernel
theorem dX9_takes_4 : decode cX9_takes 4 = .ok (.iconst 0, 1) := by decide +kernel
theorem dX9_takes_5 : decode cX9_takes 5 = .ok (.iaload, 1) := by decide +kernel
theorem dX9_takes_6 : decode cX9_takes 6 = .ok (.istore_n 1, 1) := by decide +kernel
theorem dX9_takes_7 : decode cX9_takes 7 = .ok (.aload_n 0, 1) := by decide +kernel
theorem dX9_takes_8 : decode cX9_takes 8 = .ok (.iconst 0, 1) := by decide +kernel
theorem dX9_takes_9 : decode cX9_takes 9 = .ok (.putfield 62, 3) := by decide +kernel
theorem dX9_takes_12 : decode cX9_takes 12 = .ok (.iconst 0, 1) := by decide +kernel
theorem dX9_takes_13 : decode cX9_takes 13 = .ok (.istore_n 2, 1) := by decide +kernel
theorem dX9_takes_14 : decode cX9_takes 14 = .ok (.iload_n 2, 1) := by decide +kernel
theorem dX9_takes_15 : decode cX9_takes 15 = .ok (.iload_n 1, 1) := by decide +kernel
theorem dX9_takes_16 : decode cX9_takes 16 = .ok (.if_icmp .ge 48, 3) := by decide +kernel
theorem dX9_takes_19 : decode cX9_takes 19 = .ok (.aload_n 0, 1) := by decide +kernel
theorem dX9_takes_20 : decode cX9_takes 20 = .ok (.aload_n 0, 1) := by decide +kernel
theorem dX9_takes_21 : decode cX9_takes 21 = .ok (.getfield 31, 3) := by decide +kernel
theorem dX9_takes_24 : decode cX9_takes 24 = .ok (.iconst 1, 1) := by decide +kernel
theorem dX9_takes_25 : decode cX9_takes 25 = .ok (.iload_n 2, 1) := by decide +kernel
theorem dX9_takes_26 : decode cX9_takes 26 = .ok (.iadd, 1) := by decide +kernel
theorem dX9_takes_27 : decode cX9_takes 27 = .ok (.iaload, 1) := by decide +kernel
theorem dX9_takes_28 : decode cX9_takes 28 = .ok (.aload_n 0, 1) := by decide +kernel
theorem dX9_takes_29 : decode cX9_takes 29 = .ok (.getfield 31, 3) := by decide +kernel
theorem dX9_takes_32 : decode cX9_takes 32 = .ok (.bipush 25, 2) := by decide +kernel
theorem dX9_takes_34 : decode cX9_takes 34 = .ok (.iload_n 2, 1) := by decide +kernel
theorem dX9_takes_35 : decode cX9_takes 35 = .ok (.iadd, 1) := by decide +kernel
theorem dX9_takes_36 : decode cX9_takes 36 = .ok (.iaload, 1) := by decide +kernel
theorem dX9_takes_37 : decode cX9_takes 37 = .ok (.aload_n 0, 1) := by decide +kernel
theorem dX9_takes_38 : decode cX9_takes 38 = .ok (.getfield 31, 3) := by decide +kernel
theorem dX9_takes_41 : decode cX9_takes 41 = .ok (.bipush 49, 2) := by decide +kernel
theorem dX9_takes_43 : decode cX9_takes 43 = .ok (.iload_n 2, 1) := by decide +kernel
theorem dX9_takes_44 : decode cX9_takes 44 = .ok (.iadd, 1) := by decide +kernel
theorem dX9_takes_45 : decode cX9_takes 45 = .ok (.iaload, 1) := by decide +kernel
theorem dX9_takes_46 : decode cX9_takes 46 = .ok (.aload_n 0, 1) := by decide +kernel
theorem dX9_takes_47 : decode cX9_takes 47 = .ok (.getfield 31, 3) := by decide +kernel
theorem dX9_takes_50 : decode cX9_takes 50 = .ok (.bipush 73, 2) := by decide +kernel
theorem dX9_takes_52 : decode cX9_takes 52 = .ok (.iload_n 2, 1) := by decide +kernel
theorem dX9_takes_53 : decode cX9_takes 53 = .ok (.iadd, 1) := by decide +kernel
theorem dX9_takes_54 : decode cX9_takes 54 = .ok (.iaload, 1) := by decide +kernel
theorem dX9_takes_55 : decode cX9_takes 55 = .ok (.invokevirtual 102, 3) := by decide +kernel
theorem dX9_takes_58 : decode cX9_takes 58 = .ok (.iinc 2 1, 3) := by decide +kernel
theorem dX9_takes_61 : decode cX9_takes 61 = .ok (.goto (-47), 3) := by decide +kernel
theorem dX9_takes_64 : decode cX9_takes 64 = .ok (.return_, 1) := by decide +kernel
theorem dX9_tables_0 : decode cX9_tables 0 = .ok (.aload_n 0, 1) := by decide +kernel
theorem dX9_tables_1 : decode cX9_tables 1 = .ok (.invokevirtual 132, 3) := by decide +kernel
theorem dX9_tables_4 : decode cX9_tables 4 = .ok (.aload_n 0, 1) := by decide +kernel
theorem dX9_tables_5 : decode cX9_tables 5 = .ok (.invokevirtual 135, 3) := by decide +kernel
theorem dX9_tables_8 : decode cX9_tables 8 = .ok (.ifCond .ne 15, 3) := by decide +kernel
theorem dX9_tables_11 : decode cX9_tables 11 = .ok (.aload_n 0, 1) := by decide +kernel
theorem dX9_tables_12 : decode cX9_tables 12 = .ok (.invokevirtual 138, 3) := by decide +kernel
theorem dX9_tables_15 : decode cX9_tables 15 = .ok (.bipush (-10), 2) := by decide +kernel
theorem dX9_tables_17 : decode cX9_tables 17 = .ok (.aload_n 0, 1) := by decide +kernel
theorem dX9_tables_18 : decode cX9_tables 18 = .ok (.getfield 85, 3) := by decide +kernel
theorem dX9_tables_21 : decode cX9_tables 21 = .ok (.isub, 1) := by decide +kernel
theorem dX9_tables_22 : decode cX9_tables 22 = .ok (.ireturn, 1) := by decide +kernel
theorem dX9_tables_23 : decode cX9_tables 23 = .ok (.aload_n 0, 1) := by decide +kernel
theorem dX9_tables_24 : decode cX9_tables 24 = .ok (.iconst 0, 1) := by decide +kernel
theorem dX9_tables_25 : decode cX9_tables 25 = .ok (.putfield 82, 3) := by decide +kernel
theorem dX9_tables_28 : decode cX9_tables 28 = .ok (.aload_n 0, 1) := by decide +kernel
theorem dX9_tables_29 : decode cX9_tables 29 = .ok (.iconst 0, 1) := by decide +kernel
theorem dX9_tables_30 : decode cX9_tables 30 = .ok (.putfield 141, 3) := by decide +kernel
theorem dX9_tables_33 : decode cX9_tables 33 = .ok (.aload_n 0, 1) := by decide +kernel
theorem dX9_tables_34 : decode cX9_tables 34 = .ok (.iconst 0, 1) := by decide +kernel
theorem dX9_tables_35 : decode cX9_tables 35 = .ok (.putfield 144, 3) := by decide +kernel
theorem dX9_tables_38 : decode cX9_tables 38 = .ok (.iconst 0, 1) := by decide +kernel
theorem dX9_tables_39 : decode cX9_tables 39 = .ok (.istore_n 1, 1) := by decide +kernel
theorem dX9_tables_40 : decode cX9_tables 40 = .ok (.iload_n 1, 1) := by decide +kernel
theorem dX9_tables_41 : decode cX9_tables 41 = .ok (.iconst 4, 1) := by decide +kernel
theorem dX9_tables_42 : decode cX9_tables 42 = .ok (.if_icmp .ge 16, 3) := by decide +kernel
theorem dX9_tables_45 : decode cX9_tables 45 = .ok (.aload_n 0, 1) := by decide +kernel
theorem dX9_tables_46 : decode cX9_tables 46 = .ok (.getfield 34, 3) := by decide +kernel
theorem dX9_tables_49 : decode cX9_tables 49 = .ok (.iload_n 1, 1) := by decide +kernel
theorem dX9_tables_50 : decode cX9_tables 50 = .ok (.iconst 0, 1) := by decide +kernel
theorem dX9_tables_51 : decode cX9_tables 51 = .ok (.iastore, 1) := by decide +kernel
theorem dX9_tables_52 : decode cX9_tables 52 = .ok (.iinc 1 1, 3) := by decide +kernel
theorem dX9_tables_55 : decode cX9_tables 55 = .ok (.goto (-15), 3) := by decide +kernel
theorem dX9_tables_58 : decode cX9_tables 58 = .ok (.aload_n 0, 1) := by decide +kernel
theorem dX9_tables_59 : decode cX9_tables 59 = .ok (.getfield 59, 3) := by decide +kernel
theorem dX9_tables_62 : decode cX9_tables 62 = .ok (.iconst 0, 1) := by decide +kernel
theorem dX9_tables_63 : decode cX9_tables 63 = .ok (.iconst 0, 1) := by decide +kernel
theorem dX9_tables_64 : decode cX9_tables 64 = .ok (.iastore, 1) := by decide +kernel
theorem dX9_tables_65 : decode cX9_tables 65 = .ok (.aload_n 0, 1) := by decide +kernel
theorem dX9_tables_66 : decode cX9_tables 66 = .ok (.getfield 59, 3) := by decide +kernel
theorem dX9_tables_69 : decode cX9_tables 69 = .ok (.bipush 74, 2) := by decide +kernel
theorem dX9_tables_71 : decode cX9_tables 71 = .ok (.iconst 0, 1) := by decide +kernel
theorem dX9_tables_72 : decode cX9_tables 72 = .ok (.iastore, 1) := by decide +kernel
theorem dX9_tables_73 : decode cX9_tables 73 = .ok (.aload_n 0, 1) := by decide +kernel
theorem dX9_tables_74 : decode cX9_tables 74 = .ok (.getfield 62, 3) := by decide +kernel
theorem dX9_tables_77 : decode cX9_tables 77 = .ok (.ireturn, 1) := by decide +kernel
theorem dX9_isText_0 : decode cX9_isText 0 = .ok (.iload_n 0, 1) := by decide +kernel
theorem dX9_isText_1 : decode cX9_isText 1 = .ok (.iconst 0, 1) := by decide +kernel
theorem dX9_isText_2 : decode cX9_isText 2 = .ok (.iconst 3, 1) := by decide +kernel
theorem dX9_isText_3 : decode cX9_isText 3 = .ok (.invokestatic 66, 3) := by decide +kernel
theorem dX9_isText_6 : decode cX9_isText 6 = .ok (.ireturn, 1) := by decide +kernel
theorem dX9_isRule_0 : decode cX9_isRule 0 = .ok (.iload_n 0, 1) := by decide +kernel
theorem dX9_isRule_1 : decode cX9_isRule 1 = .ok (.iconst 0, 1) := by decide +kernel
theorem dX9_isRule_2 : decode cX9_isRule 2 = .ok (.iconst 5, 1) := by decide +kernel
theorem dX9_isRule_3 : decode cX9_isRule 3 = .ok (.invokestatic 66, 3) := by decide +kernel
theorem dX9_isRule_6 : decode cX9_isRule 6 = .ok (.ireturn, 1) := by decide +kernel
theorem dX9_notes_0 : decode cX9_notes 0 = .ok (.aload_n 0, 1) := by decide +kernel
theorem dX9_notes_1 : decode cX9_notes 1 = .ok (.getfield 144, 3) := by decide +kernel
theorem dX9_notes_4 : decode cX9_notes 4 = .ok (.bipush 10, 2) := by decide +kernel
theorem dX9_notes_6 : decode cX9_notes 6 = .ok (.if_icmp .ne 43, 3) := by decide +kernel
theorem dX9_notes_9 : decode cX9_notes 9 = .ok (.iconst 0, 1) := by decide +kernel
theorem dX9_notes_10 : decode cX9_notes 10 = .ok (.istore_n 2, 1) := by decide +kernel
theorem dX9_notes_11 : decode cX9_notes 11 = .ok (.iload_n 2, 1) := by decide +kernel
theorem dX9_notes_12 : decode cX9_notes 12 = .ok (.sipush 162, 3) := by decide +kernel
theorem dX9_notes_15 : decode cX9_notes 15 = .ok (.if_icmp .ge 24, 3) := by decide +kernel
theorem dX9_notes_18 : decode cX9_notes 18 = .ok (.aload_n 0, 1) := by decide +kernel
theorem dX9_notes_19 : decode cX9_notes 19 = .ok (.getfield 43, 3) := by decide +kernel
theorem dX9_notes_22 : decode cX9_notes 22 = .ok (.iload_n 2, 1) := by decide +kernel
theorem dX9_notes_23 : decode cX9_notes 23 = .ok (.aload_n 0, 1) := by decide +kernel
theorem dX9_notes_24 : decode cX9_notes 24 = .ok (.getfield 43, 3) := by decide +kernel
theorem dX9_notes_27 : decode cX9_notes 27 = .ok (.iload_n 2, 1) := by decide +kernel
theorem dX9_notes_28 : decode cX9_notes 28 = .ok (.bipush 18, 2) := by decide +kernel
theorem dX9_notes_30 : decode cX9_notes 30 = .ok (.iadd, 1) := by decide +kernel
theorem dX9_notes_31 : decode cX9_notes 31 = .ok (.iaload, 1) := by decide +kernel
theorem dX9_notes_32 : decode cX9_notes 32 = .ok (.iastore, 1) := by decide +kernel
theorem dX9_notes_33 : decode cX9_notes 33 = .ok (.iinc 2 1, 3) := by decide +kernel
theorem dX9_notes_36 : decode cX9_notes 36 = .ok (.goto (-25), 3) := by decide +kernel
theorem dX9_notes_39 : decode cX9_notes 39 = .ok (.aload_n 0, 1) := by decide +kernel
theorem dX9_notes_40 : decode cX9_notes 40 = .ok (.dup, 1) := by decide +kernel
theorem dX9_notes_41 : decode cX9_notes 41 = .ok (.getfield 144, 3) := by decide +kernel
theorem dX9_notes_44 : decode cX9_notes 44 = .ok (.iconst 1, 1) := by decide +kernel
theorem dX9_notes_45 : decode cX9_notes 45 = .ok (.isub, 1) := by decide +kernel
theorem dX9_notes_46 : decode cX9_notes 46 = .ok (.putfield 144, 3) := by decide +kernel
theorem dX9_notes_49 : decode cX9_notes 49 = .ok (.bipush 18, 2) := by decide +kernel
theorem dX9_notes_51 : decode cX9_notes 51 = .ok (.aload_n 0, 1) := by decide +kernel
theorem dX9_notes_52 : decode cX9_notes 52 = .ok (.getfield 144, 3) := by decide +kernel
theorem dX9_notes_55 : decode cX9_notes 55 = .ok (.imul, 1) := by decide +kernel
theorem dX9_notes_56 : decode cX9_notes 56 = .ok (.istore_n 2, 1) := by decide +kernel
theorem dX9_notes_57 : decode cX9_notes 57 = .ok (.aload_n 0, 1) := by decide +kernel
theorem dX9_notes_58 : decode cX9_notes 58 = .ok (.getfield 43, 3) := by decide +kernel
theorem dX9_notes_61 : decode cX9_notes 61 = .ok (.iload_n 2, 1) := by decide +kernel
theorem dX9_notes_62 : decode cX9_notes 62 = .ok (.iload_n 1, 1) := by decide +kernel
theorem dX9_notes_63 : decode cX9_notes 63 = .ok (.iastore, 1) := by decide +kernel
theorem dX9_notes_64 : decode cX9_notes 64 = .ok (.aload_n 0, 1) := by decide +kernel
theorem dX9_notes_65 : decode cX9_notes 65 = .ok (.getfield 43, 3) := by decide +kernel
theorem dX9_notes_68 : decode cX9_notes 68 = .ok (.iload_n 2, 1) := by decide +kernel
theorem dX9_notes_69 : decode cX9_notes 69 = .ok (.iconst 1, 1) := by decide +kernel
theorem dX9_notes_70 : decode cX9_notes 70 = .ok (.iadd, 1) := by decide +kernel
theorem dX9_notes_71 : decode cX9_notes 71 = .ok (.aload_n 0, 1) := by decide +kernel
theorem dX9_notes_72 : decode cX9_notes 72 = .ok (.getfield 34, 3) := by decide +kernel
theorem dX9_notes_75 : decode cX9_notes 75 = .ok (.iload_n 1, 1) := by decide +kernel
theorem dX9_notes_76 : decode cX9_notes 76 = .ok (.iaload, 1) := by decide +kernel
theorem dX9_notes_77 : decode cX9_notes 77 = .ok (.iastore, 1) := by decide +kernel
theorem dX9_notes_78 : decode cX9_notes 78 = .ok (.iconst 0, 1) := by decide +kernel
theorem dX9_notes_79 : decode cX9_notes 79 = .ok (.istore_n 3, 1) := by decide +kernel
theorem dX9_notes_80 : decode cX9_notes 80 = .ok (.iload_n 3, 1) := by decide +kernel
theorem dX9_notes_81 : decode cX9_notes 81 = .ok (.bipush 16, 2) := by decide +kernel
theorem dX9_notes_83 : decode cX9_notes 83 = .ok (.if_icmp .ge 30, 3) := by decide +kernel
theorem dX9_notes_86 : decode cX9_notes 86 = .ok (.aload_n 0, 1) := by decide +kernel
theorem dX9_notes_87 : decode cX9_notes 87 = .ok (.getfield 43, 3) := by decide +kernel
theorem dX9_notes_90 : decode cX9_notes 90 = .ok (.iload_n 2, 1) := by decide +kernel
theorem dX9_notes_91 : decode cX9_notes 91 = .ok (.iconst 2, 1) := by decide +kernel
theorem dX9_notes_92 : decode cX9_notes 92 = .ok (.iadd, 1) := by decide +kernel
theorem dX9_notes_93 : decode cX9_notes 93 = .ok (.iload_n 3, 1) := by decide +kernel
theorem dX9_notes_94 : decode cX9_notes 94 = .ok (.iadd, 1) := by decide +kernel
theorem dX9_notes_95 : decode cX9_notes 95 = .ok (.aload_n 0, 1) := by decide +kernel
theorem dX9_notes_96 : decode cX9_notes 96 = .ok (.getfield 37, 3) := by decide +kernel
theorem dX9_notes_99 : decode cX9_notes 99 = .ok (.bipush 16, 2) := by decide +kernel
theorem dX9_notes_101 : decode cX9_notes 101 = .ok (.iload_n 1, 1) := by decide +kernel
theorem dX9_notes_102 : decode cX9_notes 102 = .ok (.imul, 1) := by decide +kernel
theorem dX9_notes_103 : decode cX9_notes 103 = .ok (.iload_n 3, 1) := by decide +kernel
theorem dX9_notes_104 : decode cX9_notes 104 = .ok (.iadd, 1) := by decide +kernel
theorem dX9_notes_105 : decode cX9_notes 105 = .ok (.iaload, 1) := by decide +kernel
theorem dX9_notes_106 : decode cX9_notes 106 = .ok (.iastore, 1) := by decide +kernel
theorem dX9_notes_107 : decode cX9_notes 107 = .ok (.iinc 3 1, 3) := by decide +kernel
theorem dX9_notes_110 : decode cX9_notes 110 = .ok (.goto (-30), 3) := by decide +kernel
theorem dX9_notes_113 : decode cX9_notes 113 = .ok (.aload_n 0, 1) := by decide +kernel
theorem dX9_notes_114 : decode cX9_notes 114 = .ok (.dup, 1) := by decide +kernel
theorem dX9_notes_115 : decode cX9_notes 115 = .ok (.getfield 144, 3) := by decide +kernel
theorem dX9_notes_118 : decode cX9_notes 118 = .ok (.iconst 1, 1) := by decide +kernel
theorem dX9_notes_119 : decode cX9_notes 119 = .ok (.iadd, 1) := by decide +kernel
theorem dX9_notes_120 : decode cX9_notes 120 = .ok (.putfield 144, 3) := by decide +kernel
theorem dX9_notes_123 : decode cX9_notes 123 = .ok (.return_, 1) := by decide +kernel
theorem dX9_adds_0 : decode cX9_adds 0 = .ok (.aload_n 0, 1) := by decide +kernel
theorem dX9_adds_1 : decode cX9_adds 1 = .ok (.getfield 37, 3) := by decide +kernel
theorem dX9_adds_4 : decode cX9_adds 4 = .ok (.bipush 16, 2) := by decide +kernel
theorem dX9_adds_6 : decode cX9_adds 6 = .ok (.iload_n 1, 1) := by decide +kernel
theorem dX9_adds_7 : decode cX9_adds 7 = .ok (.imul, 1) := by decide +kernel
theorem dX9_adds_8 : decode cX9_adds 8 = .ok (.aload_n 0, 1) := by decide +kernel
theorem dX9_adds_9 : decode cX9_adds 9 = .ok (.getfield 34, 3) := by decide +kernel
theorem dX9_adds_12 : decode cX9_adds 12 = .ok (.iload_n 1, 1) := by decide +kernel
theorem dX9_adds_13 : decode cX9_adds 13 = .ok (.iaload, 1) := by decide +kernel
theorem dX9_adds_14 : decode cX9_adds 14 = .ok (.iadd, 1) := by decide +kernel
theorem dX9_adds_15 : decode cX9_adds 15 = .ok (.iload_n 2, 1) := by decide +kernel
theorem dX9_adds_16 : decode cX9_adds 16 = .ok (.iastore, 1) := by decide +kernel
theorem dX9_adds_17 : decode cX9_adds 17 = .ok (.aload_n 0, 1) := by decide +kernel
theorem dX9_adds_18 : decode cX9_adds 18 = .ok (.getfield 34, 3) := by decide +kernel
theorem dX9_adds_21 : decode cX9_adds 21 = .ok (.iload_n 1, 1) := by decide +kernel
theorem dX9_adds_22 : decode cX9_adds 22 = .ok (.dup2, 1) := by decide +kernel
theorem dX9_adds_23 : decode cX9_adds 23 = .ok (.iaload, 1) := by decide +kernel
theorem dX9_adds_24 : decode cX9_adds 24 = .ok (.iconst 1, 1) := by decide +kernel
theorem dX9_adds_25 : decode cX9_adds 25 = .ok (.iadd, 1) := by decide +kernel
theorem dX9_adds_26 : decode cX9_adds 26 = .ok (.iastore, 1) := by decide +kernel
theorem dX9_adds_27 : decode cX9_adds 27 = .ok (.return_, 1) := by decide +kernel
theorem dX9_puts_0 : decode cX9_puts 0 = .ok (.iload_n 1, 1) := by decide +kernel
theorem dX9_puts_1 : decode cX9_puts 1 = .ok (.invokestatic 147, 3) := by decide +kernel
theorem dX9_puts_4 : decode cX9_puts 4 = .ok (.ifCond .eq 11, 3) := by decide +kernel
theorem dX9_puts_7 : decode cX9_puts 7 = .ok (.aload_n 0, 1) := by decide +kernel
theorem dX9_puts_8 : decode cX9_puts 8 = .ok (.iload_n 2, 1) := by decide +kernel
theorem dX9_puts_9 : decode cX9_puts 9 = .ok (.invokevirtual 74, 3) := by decide +kernel
theorem dX9_puts_12 : decode cX9_puts 12 = .ok (.ifCond .ne 5, 3) := by decide +kernel
theorem dX9_puts_15 : decode cX9_puts 15 = .ok (.iconst (-1), 1) := by decide +kernel
theorem dX9_puts_16 : decode cX9_puts 16 = .ok (.ireturn, 1) := by decide +kernel
theorem dX9_puts_17 : decode cX9_puts 17 = .ok (.aload_n 0, 1) := by decide +kernel
theorem dX9_puts_18 : decode cX9_puts 18 = .ok (.getfield 34, 3) := by decide +kernel
theorem dX9_puts_21 : decode cX9_puts 21 = .ok (.iload_n 1, 1) := by decide +kernel
theorem dX9_puts_22 : decode cX9_puts 22 = .ok (.iaload, 1) := by decide +kernel
theorem dX9_puts_23 : decode cX9_puts 23 = .ok (.bipush 16, 2) := by decide +kernel
theorem dX9_puts_25 : decode cX9_puts 25 = .ok (.if_icmp .ne 6, 3) := by decide +kernel
theorem dX9_puts_28 : decode cX9_puts 28 = .ok (.bipush (-3), 2) := by decide +kernel
theorem dX9_puts_30 : decode cX9_puts 30 = .ok (.ireturn, 1) := by decide +kernel
theorem dX9_puts_31 : decode cX9_puts 31 = .ok (.aload_n 0, 1) := by decide +kernel
theorem dX9_puts_32 : decode cX9_puts 32 = .ok (.iload_n 1, 1) := by decide +kernel
theorem dX9_puts_33 : decode cX9_puts 33 = .ok (.invokevirtual 150, 3) := by decide +kernel
theorem dX9_puts_36 : decode cX9_puts 36 = .ok (.aload_n 0, 1) := by decide +kernel
theorem dX9_puts_37 : decode cX9_puts 37 = .ok (.iload_n 1, 1) := by decide +kernel
theorem dX9_puts_38 : decode cX9_puts 38 = .ok (.iload_n 2, 1) := by decide +kernel
theorem dX9_puts_39 : decode cX9_puts 39 = .ok (.invokevirtual 154, 3) := by decide +kernel
theorem dX9_puts_42 : decode cX9_puts 42 = .ok (.aload_n 0, 1) := by decide +kernel
theorem dX9_puts_43 : decode cX9_puts 43 = .ok (.getfield 34, 3) := by decide +kernel
theorem dX9_puts_46 : decode cX9_puts 46 = .ok (.iload_n 1, 1) := by decide +kernel
theorem dX9_puts_47 : decode cX9_puts 47 = .ok (.iaload, 1) := by decide +kernel
theorem dX9_puts_48 : decode cX9_puts 48 = .ok (.ireturn, 1) := by decide +kernel
theorem dX9_cuts_0 : decode cX9_cuts 0 = .ok (.iload_n 1, 1) := by decide +kernel
theorem dX9_cuts_1 : decode cX9_cuts 1 = .ok (.invokestatic 147, 3) := by decide +kernel
theorem dX9_cuts_4 : decode cX9_cuts 4 = .ok (.ifCond .ne 5, 3) := by decide +kernel
theorem dX9_cuts_7 : decode cX9_cuts 7 = .ok (.iconst (-1), 1) := by decide +kernel
theorem dX9_cuts_8 : decode cX9_cuts 8 = .ok (.ireturn, 1) := by decide +kernel
theorem dX9_cuts_9 : decode cX9_cuts 9 = .ok (.aload_n 0, 1) := by decide +kernel
theorem dX9_cuts_10 : decode cX9_cuts 10 = .ok (.getfield 34, 3) := by decide +kernel
theorem dX9_cuts_13 : decode cX9_cuts 13 = .ok (.iload_n 1, 1) := by decide +kernel
theorem dX9_cuts_14 : decode cX9_cuts 14 = .ok (.iaload, 1) := by decide +kernel
theorem dX9_cuts_15 : decode cX9_cuts 15 = .ok (.ifCond .ne 6, 3) := by decide +kernel
theorem dX9_cuts_18 : decode cX9_cuts 18 = .ok (.bipush (-2), 2) := by decide +kernel
theorem dX9_cuts_20 : decode cX9_cuts 20 = .ok (.ireturn, 1) := by decide +kernel
theorem dX9_cuts_21 : decode cX9_cuts 21 = .ok (.aload_n 0, 1) := by decide +kernel
theorem dX9_cuts_22 : decode cX9_cuts 22 = .ok (.iload_n 1, 1) := by decide +kernel
theorem dX9_cuts_23 : decode cX9_cuts 23 = .ok (.invokevirtual 150, 3) := by decide +kernel
theorem dX9_cuts_26 : decode cX9_cuts 26 = .ok (.aload_n 0, 1) := by decide +kernel
theorem dX9_cuts_27 : decode cX9_cuts 27 = .ok (.getfield 34, 3) := by decide +kernel
theorem dX9_cuts_30 : decode cX9_cuts 30 = .ok (.iload_n 1, 1) := by decide +kernel
theorem dX9_cuts_31 : decode cX9_cuts 31 = .ok (.dup2, 1) := by decide +kernel
theorem dX9_cuts_32 : decode cX9_cuts 32 = .ok (.iaload, 1) := by decide +kernel
theorem dX9_cuts_33 : decode cX9_cuts 33 = .ok (.iconst 1, 1) := by decide +kernel
theorem dX9_cuts_34 : decode cX9_cuts 34 = .ok (.isub, 1) := by decide +kernel
theorem dX9_cuts_35 : decode cX9_cuts 35 = .ok (.iastore, 1) := by decide +kernel
theorem dX9_cuts_36 : decode cX9_cuts 36 = .ok (.aload_n 0, 1) := by decide +kernel
theorem dX9_cuts_37 : decode cX9_cuts 37 = .ok (.getfield 37, 3) := by decide +kernel
theorem dX9_cuts_40 : decode cX9_cuts 40 = .ok (.bipush 16, 2) := by decide +kernel
theorem dX9_cuts_42 : decode cX9_cuts 42 = .ok (.iload_n 1, 1) := by decide +kernel
theorem dX9_cuts_43 : decode cX9_cuts 43 = .ok (.imul, 1) := by decide +kernel
theorem dX9_cuts_44 : decode cX9_cuts 44 = .ok (.aload_n 0, 1) := by decide +kernel
theorem dX9_cuts_45 : decode cX9_cuts 45 = .ok (.getfield 34, 3) := by decide +kernel
theorem dX9_cuts_48 : decode cX9_cuts 48 = .ok (.iload_n 1, 1) := by decide +kernel
theorem dX9_cuts_49 : decode cX9_cuts 49 = .ok (.iaload, 1) := by decide +kernel
theorem dX9_cuts_50 : decode cX9_cuts 50 = .ok (.iadd, 1) := by decide +kernel
theorem dX9_cuts_51 : decode cX9_cuts 51 = .ok (.iaload, 1) := by decide +kernel
theorem dX9_cuts_52 : decode cX9_cuts 52 = .ok (.ireturn, 1) := by decide +kernel
theorem dX9_appends_0 : decode cX9_appends 0 = .ok (.iload_n 1, 1) := by decide +kernel
theorem dX9_appends_1 : decode cX9_appends 1 = .ok (.invokestatic 147, 3) := by decide +kernel
theorem dX9_appends_4 : decode cX9_appends 4 = .ok (.ifCond .eq 10, 3) := by decide +kernel
theorem dX9_appends_7 : decode cX9_appends 7 = .ok (.iload_n 2, 1) := by decide +kernel
theorem dX9_appends_8 : decode cX9_appends 8 = .ok (.invokestatic 147, 3) := by decide +kernel
theorem dX9_appends_11 : decode cX9_appends 11 = .ok (.ifCond .ne 5, 3) := by decide +kernel
theorem dX9_appends_14 : decode cX9_appends 14 = .ok (.iconst (-1), 1) := by decide +kernel
theorem dX9_appends_15 : decode cX9_appends 15 = .ok (.ireturn, 1) := by decide +kernel
theorem dX9_appends_16 : decode cX9_appends 16 = .ok (.aload_n 0, 1) := by decide +kernel
theorem dX9_appends_17 : decode cX9_appends 17 = .ok (.getfield 34, 3) := by decide +kernel
theorem dX9_appends_20 : decode cX9_appends 20 = .ok (.iload_n 2, 1) := by decide +kernel
theorem dX9_appends_21 : decode cX9_appends 21 = .ok (.iaload, 1) := by decide +kernel
theorem dX9_appends_22 : decode cX9_appends 22 = .ok (.istore_n 3, 1) := by decide +kernel
theorem dX9_appends_23 : decode cX9_appends 23 = .ok (.aload_n 0, 1) := by decide +kernel
theorem dX9_appends_24 : decode cX9_appends 24 = .ok (.getfield 34, 3) := by decide +kernel
theorem dX9_appends_27 : decode cX9_appends 27 = .ok (.iload_n 1, 1) := by decide +kernel
theorem dX9_appends_28 : decode cX9_appends 28 = .ok (.iaload, 1) := by decide +kernel
theorem dX9_appends_29 : decode cX9_appends 29 = .ok (.iload_n 3, 1) := by decide +kernel
theorem dX9_appends_30 : decode cX9_appends 30 = .ok (.iadd, 1) := by decide +kernel
theorem dX9_appends_31 : decode cX9_appends 31 = .ok (.bipush 16, 2) := by decide +kernel
theorem dX9_appends_33 : decode cX9_appends 33 = .ok (.if_icmp .le 6, 3) := by decide +kernel
theorem dX9_appends_36 : decode cX9_appends 36 = .ok (.bipush (-3), 2) := by decide +kernel
theorem dX9_appends_38 : decode cX9_appends 38 = .ok (.ireturn, 1) := by decide +kernel
theorem dX9_appends_39 : decode cX9_appends 39 = .ok (.aload_n 0, 1) := by decide +kernel
theorem dX9_appends_40 : decode cX9_appends 40 = .ok (.iload_n 1, 1) := by decide +kernel
theorem dX9_appends_41 : decode cX9_appends 41 = .ok (.invokevirtual 150, 3) := by decide +kernel
theorem dX9_appends_44 : decode cX9_appends 44 = .ok (.iconst 0, 1) := by decide +kernel
theorem dX9_appends_45 : decode cX9_appends 45 = .ok (.istore 4, 2) := by decide +kernel
theorem dX9_appends_47 : decode cX9_appends 47 = .ok (.iload 4, 2) := by decide +kernel
theorem dX9_appends_49 : decode cX9_appends 49 = .ok (.iload_n 3, 1) := by decide +kernel
theorem dX9_appends_50 : decode cX9_appends 50 = .ok (.if_icmp .ge 26, 3) := by decide +kernel
theorem dX9_appends_53 : decode cX9_appends 53 = .ok (.aload_n 0, 1) := by decide +kernel
theorem dX9_appends_54 : decode cX9_appends 54 = .ok (.iload_n 1, 1) := by decide +kernel
theorem dX9_appends_55 : decode cX9_appends 55 = .ok (.aload_n 0, 1) := by decide +kernel
theorem dX9_appends_56 : decode cX9_appends 56 = .ok (.getfield 37, 3) := by decide +kernel
theorem dX9_appends_59 : decode cX9_appends 59 = .ok (.bipush 16, 2) := by decide +kernel
theorem dX9_appends_61 : decode cX9_appends 61 = .ok (.iload_n 2, 1) := by decide +kernel
theorem dX9_appends_62 : decode cX9_appends 62 = .ok (.imul, 1) := by decide +kernel
theorem dX9_appends_63 : decode cX9_appends 63 = .ok (.iload 4, 2) := by decide +kernel
theorem dX9_appends_65 : decode cX9_appends 65 = .ok (.iadd, 1) := by decide +kernel
theorem dX9_appends_66 : decode cX9_appends 66 = .ok (.iaload, 1) := by decide +kernel
theorem dX9_appends_67 : decode cX9_appends 67 = .ok (.invokevirtual 154, 3) := by decide +kernel
theorem dX9_appends_70 : decode cX9_appends 70 = .ok (.iinc 4 1, 3) := by decide +kernel
theorem dX9_appends_73 : decode cX9_appends 73 = .ok (.goto (-26), 3) := by decide +kernel
theorem dX9_appends_76 : decode cX9_appends 76 = .ok (.aload_n 0, 1) := by decide +kernel
theorem dX9_appends_77 : decode cX9_appends 77 = .ok (.getfield 34, 3) := by decide +kernel
theorem dX9_appends_80 : decode cX9_appends 80 = .ok (.iload_n 1, 1) := by decide +kernel
theorem dX9_appends_81 : decode cX9_appends 81 = .ok (.iaload, 1) := by decide +kernel
theorem dX9_appends_82 : decode cX9_appends 82 = .ok (.ireturn, 1) := by decide +kernel
theorem dX9_comeOut_0 : decode cX9_comeOut 0 = .ok (.aload_n 0, 1) := by decide +kernel
theorem dX9_comeOut_1 : decode cX9_comeOut 1 = .ok (.iconst 0, 1) := by decide +kernel
theorem dX9_comeOut_2 : decode cX9_comeOut 2 = .ok (.putfield 157, 3) := by decide +kernel
theorem dX9_comeOut_5 : decode cX9_comeOut 5 = .ok (.aload_n 0, 1) := by decide +kernel
theorem dX9_comeOut_6 : decode cX9_comeOut 6 = .ok (.iload_n 1, 1) := by decide +kernel
theorem dX9_comeOut_7 : decode cX9_comeOut 7 = .ok (.invokevirtual 160, 3) := by decide +kernel
theorem dX9_comeOut_10 : decode cX9_comeOut 10 = .ok (.return_, 1) := by decide +kernel
theorem dX9_addsOut_0 : decode cX9_addsOut 0 = .ok (.iconst 0, 1) := by decide +kernel
theorem dX9_addsOut_1 : decode cX9_addsOut 1 = .ok (.istore_n 2, 1) := by decide +kernel
theorem dX9_addsOut_2 : decode cX9_addsOut 2 = .ok (.iload_n 2, 1) := by decide +kernel
theorem dX9_addsOut_3 : decode cX9_addsOut 3 = .ok (.aload_n 0, 1) := by decide +kernel
theorem dX9_addsOut_4 : decode cX9_addsOut 4 = .ok (.getfield 34, 3) := by decide +kernel
theorem dX9_addsOut_7 : decode cX9_addsOut 7 = .ok (.iload_n 1, 1) := by decide +kernel
theorem dX9_addsOut_8 : decode cX9_addsOut 8 = .ok (.iaload, 1) := by decide +kernel
theorem dX9_addsOut_9 : decode cX9_addsOut 9 = .ok (.if_icmp .ge 39, 3) := by decide +kernel
theorem dX9_addsOut_12 : decode cX9_addsOut 12 = .ok (.aload_n 0, 1) := by decide +kernel
theorem dX9_addsOut_13 : decode cX9_addsOut 13 = .ok (.getfield 46, 3) := by decide +kernel
theorem dX9_addsOut_16 : decode cX9_addsOut 16 = .ok (.aload_n 0, 1) := by decide +kernel
theorem dX9_addsOut_17 : decode cX9_addsOut 17 = .ok (.getfield 157, 3) := by decide +kernel
theorem dX9_addsOut_20 : decode cX9_addsOut 20 = .ok (.aload_n 0, 1) := by decide +kernel
theorem dX9_addsOut_21 : decode cX9_addsOut 21 = .ok (.getfield 37, 3) := by decide +kernel
theorem dX9_addsOut_24 : decode cX9_addsOut 24 = .ok (.bipush 16, 2) := by decide +kernel
theorem dX9_addsOut_26 : decode cX9_addsOut 26 = .ok (.iload_n 1, 1) := by decide +kernel
theorem dX9_addsOut_27 : decode cX9_addsOut 27 = .ok (.imul, 1) := by decide +kernel
theorem dX9_addsOut_28 : decode cX9_addsOut 28 = .ok (.iload_n 2, 1) := by decide +kernel
theorem dX9_addsOut_29 : decode cX9_addsOut 29 = .ok (.iadd, 1) := by decide +kernel
theorem dX9_addsOut_30 : decode cX9_addsOut 30 = .ok (.iaload, 1) := by decide +kernel
theorem dX9_addsOut_31 : decode cX9_addsOut 31 = .ok (.iastore, 1) := by decide +kernel
theorem dX9_addsOut_32 : decode cX9_addsOut 32 = .ok (.aload_n 0, 1) := by decide +kernel
theorem dX9_addsOut_33 : decode cX9_addsOut 33 = .ok (.dup, 1) := by decide +kernel
theorem dX9_addsOut_34 : decode cX9_addsOut 34 = .ok (.getfield 157, 3) := by decide +kernel
theorem dX9_addsOut_37 : decode cX9_addsOut 37 = .ok (.iconst 1, 1) := by decide +kernel
theorem dX9_addsOut_38 : decode cX9_addsOut 38 = .ok (.iadd, 1) := by decide +kernel
theorem dX9_addsOut_39 : decode cX9_addsOut 39 = .ok (.putfield 157, 3) := by decide +kernel
theorem dX9_addsOut_42 : decode cX9_addsOut 42 = .ok (.iinc 2 1, 3) := by decide +kernel
theorem dX9_addsOut_45 : decode cX9_addsOut 45 = .ok (.goto (-43), 3) := by decide +kernel
theorem dX9_addsOut_48 : decode cX9_addsOut 48 = .ok (.return_, 1) := by decide +kernel
theorem dX9_asOther_0 : decode cX9_asOther 0 = .ok (.aload_n 0, 1) := by decide +kernel
theorem dX9_asOther_1 : decode cX9_asOther 1 = .ok (.aload_n 0, 1) := by decide +kernel
theorem dX9_asOther_2 : decode cX9_asOther 2 = .ok (.getfield 157, 3) := by decide +kernel
theorem dX9_asOther_5 : decode cX9_asOther 5 = .ok (.putfield 163, 3) := by decide +kernel
theorem dX9_asOther_8 : decode cX9_asOther 8 = .ok (.iconst 0, 1) := by decide +kernel
theorem dX9_asOther_9 : decode cX9_asOther 9 = .ok (.istore_n 1, 1) := by decide +kernel
theorem dX9_asOther_10 : decode cX9_asOther 10 = .ok (.iload_n 1, 1) := by decide +kernel
theorem dX9_asOther_11 : decode cX9_asOther 11 = .ok (.aload_n 0, 1) := by decide +kernel
theorem dX9_asOther_12 : decode cX9_asOther 12 = .ok (.getfield 157, 3) := by decide +kernel
theorem dX9_asOther_15 : decode cX9_asOther 15 = .ok (.if_icmp .ge 21, 3) := by decide +kernel
theorem dX9_asOther_18 : decode cX9_asOther 18 = .ok (.aload_n 0, 1) := by decide +kernel
theorem dX9_asOther_19 : decode cX9_asOther 19 = .ok (.getfield 49, 3) := by decide +kernel
theorem dX9_asOther_22 : decode cX9_asOther 22 = .ok (.iload_n 1, 1) := by decide +kernel
theorem dX9_asOther_23 : decode cX9_asOther 23 = .ok (.aload_n 0, 1) := by decide +kernel
theorem dX9_asOther_24 : decode cX9_asOther 24 = .ok (.getfield 46, 3) := by decide +kernel
theorem dX9_asOther_27 : decode cX9_asOther 27 = .ok (.iload_n 1, 1) := by decide +kernel
theorem dX9_asOther_28 : decode cX9_asOther 28 = .ok (.iaload, 1) := by decide +kernel
theorem dX9_asOther_29 : decode cX9_asOther 29 = .ok (.iastore, 1) := by decide +kernel
theorem dX9_asOther_30 : decode cX9_asOther 30 = .ok (.iinc 1 1, 3) := by decide +kernel
theorem dX9_asOther_33 : decode cX9_asOther 33 = .ok (.goto (-23), 3) := by decide +kernel
theorem dX9_asOther_36 : decode cX9_asOther 36 = .ok (.return_, 1) := by decide +kernel
theorem dX9_comeApart_0 : decode cX9_comeApart 0 = .ok (.aload_n 0, 1) := by decide +kernel
theorem dX9_comeApart_1 : decode cX9_comeApart 1 = .ok (.invokevirtual 166, 3) := by decide +kernel
theorem dX9_comeApart_4 : decode cX9_comeApart 4 = .ok (.aload_n 0, 1) := by decide +kernel
theorem dX9_comeApart_5 : decode cX9_comeApart 5 = .ok (.iconst 0, 1) := by decide +kernel
theorem dX9_comeApart_6 : decode cX9_comeApart 6 = .ok (.putfield 157, 3) := by decide +kernel
theorem dX9_comeApart_9 : decode cX9_comeApart 9 = .ok (.iconst 0, 1) := by decide +kernel
theorem dX9_comeApart_10 : decode cX9_comeApart 10 = .ok (.istore_n 1, 1) := by decide +kernel
theorem dX9_comeApart_11 : decode cX9_comeApart 11 = .ok (.iload_n 1, 1) := by decide +kernel
theorem dX9_comeApart_12 : decode cX9_comeApart 12 = .ok (.aload_n 0, 1) := by decide +kernel
theorem dX9_comeApart_13 : decode cX9_comeApart 13 = .ok (.getfield 163, 3) := by decide +kernel
theorem dX9_comeApart_16 : decode cX9_comeApart 16 = .ok (.if_icmp .ge 63, 3) := by decide +kernel
theorem dX9_comeApart_19 : decode cX9_comeApart 19 = .ok (.aload_n 0, 1) := by decide +kernel
theorem dX9_comeApart_20 : decode cX9_comeApart 20 = .ok (.getfield 49, 3) := by decide +kernel
theorem dX9_comeApart_23 : decode cX9_comeApart 23 = .ok (.iload_n 1, 1) := by decide +kernel
theorem dX9_comeApart_24 : decode cX9_comeApart 24 = .ok (.iaload, 1) := by decide +kernel
theorem dX9_comeApart_25 : decode cX9_comeApart 25 = .ok (.istore_n 2, 1) := by decide +kernel
theorem dX9_comeApart_26 : decode cX9_comeApart 26 = .ok (.iconst 0, 1) := by decide +kernel
theorem dX9_comeApart_27 : decode cX9_comeApart 27 = .ok (.istore_n 3, 1) := by decide +kernel
theorem dX9_comeApart_28 : decode cX9_comeApart 28 = .ok (.iload_n 3, 1) := by decide +kernel
theorem dX9_comeApart_29 : decode cX9_comeApart 29 = .ok (.aload_n 0, 1) := by decide +kernel
theorem dX9_comeApart_30 : decode cX9_comeApart 30 = .ok (.getfield 22, 3) := by decide +kernel
theorem dX9_comeApart_33 : decode cX9_comeApart 33 = .ok (.iload_n 2, 1) := by decide +kernel
theorem dX9_comeApart_34 : decode cX9_comeApart 34 = .ok (.iaload, 1) := by decide +kernel
theorem dX9_comeApart_35 : decode cX9_comeApart 35 = .ok (.if_icmp .ge 38, 3) := by decide +kernel
theorem dX9_comeApart_38 : decode cX9_comeApart 38 = .ok (.aload_n 0, 1) := by decide +kernel
theorem dX9_comeApart_39 : decode cX9_comeApart 39 = .ok (.getfield 46, 3) := by decide +kernel
theorem dX9_comeApart_42 : decode cX9_comeApart 42 = .ok (.aload_n 0, 1) := by decide +kernel
theorem dX9_comeApart_43 : decode cX9_comeApart 43 = .ok (.getfield 157, 3) := by decide +kernel
theorem dX9_comeApart_46 : decode cX9_comeApart 46 = .ok (.aload_n 0, 1) := by decide +kernel
theorem dX9_comeApart_47 : decode cX9_comeApart 47 = .ok (.getfield 25, 3) := by decide +kernel
theorem dX9_comeApart_50 : decode cX9_comeApart 50 = .ok (.iconst 4, 1) := by decide +kernel
theorem dX9_comeApart_51 : decode cX9_comeApart 51 = .ok (.iload_n 2, 1) := by decide +kernel
theorem dX9_comeApart_52 : decode cX9_comeApart 52 = .ok (.imul, 1) := by decide +kernel
theorem dX9_comeApart_53 : decode cX9_comeApart 53 = .ok (.iload_n 3, 1) := by decide +kernel
theorem dX9_comeApart_54 : decode cX9_comeApart 54 = .ok (.iadd, 1) := by decide +kernel
theorem dX9_comeApart_55 : decode cX9_comeApart 55 = .ok (.iaload, 1) := by decide +kernel
theorem dX9_comeApart_56 : decode cX9_comeApart 56 = .ok (.iastore, 1) := by decide +kernel
theorem dX9_comeApart_57 : decode cX9_comeApart 57 = .ok (.aload_n 0, 1) := by decide +kernel
theorem dX9_comeApart_58 : decode cX9_comeApart 58 = .ok (.dup, 1) := by decide +kernel
theorem dX9_comeApart_59 : decode cX9_comeApart 59 = .ok (.getfield 157, 3) := by decide +kernel
theorem dX9_comeApart_62 : decode cX9_comeApart 62 = .ok (.iconst 1, 1) := by decide +kernel
theorem dX9_comeApart_63 : decode cX9_comeApart 63 = .ok (.iadd, 1) := by decide +kernel
theorem dX9_comeApart_64 : decode cX9_comeApart 64 = .ok (.putfield 157, 3) := by decide +kernel
theorem dX9_comeApart_67 : decode cX9_comeApart 67 = .ok (.iinc 3 1, 3) := by decide +kernel
theorem dX9_comeApart_70 : decode cX9_comeApart 70 = .ok (.goto (-42), 3) := by decide +kernel
theorem dX9_comeApart_73 : decode cX9_comeApart 73 = .ok (.iinc 1 1, 3) := by decide +kernel
theorem dX9_comeApart_76 : decode cX9_comeApart 76 = .ok (.goto (-65), 3) := by decide +kernel
theorem dX9_comeApart_79 : decode cX9_comeApart 79 = .ok (.return_, 1) := by decide +kernel
theorem dX9_sorts_0 : decode cX9_sorts 0 = .ok (.iconst 1, 1) := by decide +kernel
theorem dX9_sorts_1 : decode cX9_sorts 1 = .ok (.istore_n 1, 1) := by decide +kernel
theorem dX9_sorts_2 : decode cX9_sorts 2 = .ok (.iload_n 1, 1) := by decide +kernel
theorem dX9_sorts_3 : decode cX9_sorts 3 = .ok (.aload_n 0, 1) := by decide +kernel
theorem dX9_sorts_4 : decode cX9_sorts 4 = .ok (.getfield 157, 3) := by decide +kernel
theorem dX9_sorts_7 : decode cX9_sorts 7 = .ok (.if_icmp .ge 80, 3) := by decide +kernel
theorem dX9_sorts_10 : decode cX9_sorts 10 = .ok (.aload_n 0, 1) := by decide +kernel
theorem dX9_sorts_11 : decode cX9_sorts 11 = .ok (.getfield 46, 3) := by decide +kernel
theorem dX9_sorts_14 : decode cX9_sorts 14 = .ok (.iload_n 1, 1) := by decide +kernel
theorem dX9_sorts_15 : decode cX9_sorts 15 = .ok (.iaload, 1) := by decide +kernel
theorem dX9_sorts_16 : decode cX9_sorts 16 = .ok (.istore_n 2, 1) := by decide +kernel
theorem dX9_sorts_17 : decode cX9_sorts 17 = .ok (.iload_n 1, 1) := by decide +kernel
theorem dX9_sorts_18 : decode cX9_sorts 18 = .ok (.istore_n 3, 1) := by decide +kernel
theorem dX9_sorts_19 : decode cX9_sorts 19 = .ok (.aload_n 0, 1) := by decide +kernel
theorem dX9_sorts_20 : decode cX9_sorts 20 = .ok (.getfield 13, 3) := by decide +kernel
theorem dX9_sorts_23 : decode cX9_sorts 23 = .ok (.iload_n 2, 1) := by decide +kernel
